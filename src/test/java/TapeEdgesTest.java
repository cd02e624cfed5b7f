import java.util.ArrayList;
import java.util.List;

/** Each sentence on THE TAPE and the PROGRAM that names a boundary: the last that fits and the first that doesn't. */
public final class TapeEdgesTest {
    private static final Due due = new Due();
    private static final List<String> NAMES = new ArrayList<>(PlainModel.OPS);

    public static void main(String[] args) {
        NAMES.addAll(PlainModel.OTHERS);
        sevenHundredBytes();
        highestByteFirst();
        firstBytesAlone();
        blanks();
        blanksPartTokens();
        smallLetters();
        oneToSixLetters();
        digits();
        oneToFourDigits();
        signRightAhead();
        signsAlone();
        emptyProgram();
        labelsAreNoNames();
        unlikeLabels();
        labelsToldAnywhere();
        numbersThatCanBe();
        joinsOfOneMachine();
        hundredInstructions();
        hundredLabels();
        twelveRuns();
        runsBehindAllWords();
        placeOfTheEnd();
        leastPlace();
        toldNowhereOnlyIfNoneElse();
        nothingLeftOfThoseAhead();
        noSuchInstruction();
        waysEndBehindTheLast();
        waysOfEachOp();
        hogsComeBackToThemselves();
        due.end();
    }

    private static int answer(String text) {
        MeetingMachines x = new MeetingMachines();
        Due.tape(x, text);
        return x.text();
    }

    private static void fault(String text, int place, int kind) {
        due.is("text() of " + text, answer(text), Due.fault(place, kind));
    }

    private static void fits(String text, int size) {
        due.is("text() of " + text, answer(text), size);
    }

    /** "THE TAPE has 700 bytes": the last of them is read, too. */
    private static void sevenHundredBytes() {
        fits(" ".repeat(695) + "halt;", 1);
        fault(" ".repeat(696) + "halt", 700, 1);
        fault(" ".repeat(699) + "?", 699, 1);
    }

    /** "Twenty bytes come behind THE TAPE, of each number the highest first." */
    private static void highestByteFirst() {
        for (int k = 0; k < 20; k++) {
            int[] five = {0x20202020, 0x20202020, 0x20202020, 0x20202020, 0x20202020};
            five[k / 4] = five[k / 4] & ~(255 << 24 - k % 4 * 8) | 200 << 24 - k % 4 * 8;
            MeetingMachines x = new MeetingMachines();
            due.is("feed", x.feed(five[0], five[1], five[2], five[3], five[4]), 20);
            due.is("a byte at " + k + " that begins no TOKEN", x.text(), Due.fault(k, 1));
        }
        MeetingMachines x = new MeetingMachines();
        due.is("first feed", x.feed(0x6c646320, 0x313b6c64, 0x6320323b, 0x6c646320, 0x333b6c64), 20);
        due.is("second feed", x.feed(0x6320343b, 0x6c646320, 0x353b6c64, 0x6320363b, 0x20202020), 40);
        due.is("ldc 1 to ldc 6", x.text(), 6);
        for (int i = 0; i < 6; i++) {
            due.is("code(" + i + ", 1)", x.code(i, 1), i + 1);
        }
    }

    /** "THE TAPE has its first n bytes alone": the next twenty come right behind them. */
    private static void firstBytesAlone() {
        MeetingMachines x = new MeetingMachines();
        Due.tape(x, "ldc 12; halt; halt;");
        due.yes("end(5)", x.end(5));
        due.is("bytes", x.count(7), 5);
        due.is("feed", x.feed(0x373b2020, 0x20202020, 0x20202020, 0x20202020, 0x20202020), 25);
        due.is("text()", x.text(), 1);
        due.is("ldc 17", x.code(0, 1), 17);
        Due.tape(x, "halt;");
        due.yes("end of all", x.end(5));
        due.yes("end(0)", x.end(0));
        due.yes("end(0) again", x.end(0));
        due.no("end(1)", x.end(1));
        due.is("text() of nothing", x.text(), 0);
    }

    /** "Blanks, 32, 10": no byte but these two is one. */
    private static void blanks() {
        for (int sign = 0; sign < 256; sign++) {
            boolean isBlank = sign == 32 || sign == 10;
            // a letter makes it a LABEL without its :, of ;; the second is the FAULT
            int place = sign >= 'a' && sign <= 'z' || sign == ';' ? 5 : 4;
            due.is("halt, byte " + sign + ", ;", answer("halt" + (char) sign + ";"), isBlank ? 1 : Due.fault(place, 1));
        }
    }

    /** "Blanks .. part TOKENS and mean nothing else." */
    private static void blanksPartTokens() {
        fault("ha lt;", 3, 1);
        fault("ldc 1 2;", 6, 1);
        fault("ldc - 2;", 4, 1);
        fits("\n \n ldc\n\n5\n;   a\n:\nhalt ; \n", 2);
        fits("ldc5;a:j a;word0 0 5;", 2);
    }

    /** "WORDS (small letters ..)": a to z. */
    private static void smallLetters() {
        fits("a: halt; z: j a; az: j z; j az;", 4);
        fault("`: halt;", 0, 1);
        fault("{: halt;", 0, 1);
        fault("A: halt;", 0, 1);
        fault("Z: halt;", 0, 1);
        fault("a`: halt;", 1, 1);
        fault("aB: halt;", 1, 1);
        fault("a1: halt;", 1, 1);
    }

    /** "each that stand together; 1 to 6". */
    private static void oneToSixLetters() {
        fits("a: halt;", 1);
        fits("abcdef: j abcdef;", 1);
        fault("abcdefg: halt;", 0, 1);
        fault("a: j abcdefg;", 5, 1);
        fault("taltwt; taltwtt;", 8, 1);
        fault("a".repeat(700), 0, 1);
    }

    /** "NUMBERS (digits ..)": 0 to 9. */
    private static void digits() {
        for (int n = 0; n < 10; n++) {
            due.is("the digit " + n, Due.of("ldc " + n + ";").code(0, 1), n);
        }
        fault("ldc /;", 4, 1);
        fault("ldc 0/;", 5, 1);
        fault("ldc 9:;", 5, 1);
    }

    /** "likewise": 1 to 4 that stand together, noughts ahead counted; "longer ones .. are no TOKENS". */
    private static void oneToFourDigits() {
        due.is("ldc 9999", Due.of("ldc 9999;").code(0, 1), 9999);
        due.is("ldc 0007", Due.of("ldc 0007;").code(0, 1), 7);
        fault("ldc 10000;", 4, 1);
        fault("ldc 00007;", 4, 1);
        fault("ldc 99999999999;", 4, 1);
        fault("slice 00005;", 6, 1);
    }

    /** "perhaps - right ahead": it isn't one of the four. */
    private static void signRightAhead() {
        due.is("ldc -9999", Due.of("ldc -9999;").code(0, 1), -9999);
        due.is("ldc -0", Due.of("ldc -0;").code(0, 1), 0);
        fits("word -0 -0 -0; slice 0001;", 0);
        fault("ldc -10000;", 4, 1);
        fault("ldc -;", 4, 1);
        fault("ldc -", 4, 1);
        fault("ldc -a;", 4, 1);
        fault("-", 0, 1);
        fault("ldc --1;", 4, 1);
        fault("ldc 1-1;", 5, 1);
    }

    /** "; and : alone". */
    private static void signsAlone() {
        fault("halt;;", 5, 1);
        fault("a:: halt;", 2, 1);
        fault("a:; halt;", 2, 1);
        fault(";", 0, 1);
        fault(":", 0, 1);
        fault("halt:", 4, 1);
    }

    /** "PROGRAM: { LINE ; }": one without LINES, too; each LINE has its ;. */
    private static void emptyProgram() {
        fits("", 0);
        fits("\n", 0);
        fault("halt", 4, 1);
        fault("halt halt;", 5, 1);
        fault("slice 5 word 0 0 0;", 8, 1);
    }

    /** "LABELS are WORDS but these": but one with a letter less or more is a LABEL. */
    private static void labelsAreNoNames() {
        due.is("names", NAMES.size(), 43);
        for (String name : NAMES) {
            fault(name + ": halt;", name.length(), 1);
            fault("a: j " + name + ";", 5, 1);
            fault("a: halt; run 0 20 0 " + name + ";", 20, 1);
            String less = name.substring(0, name.length() - 1);
            if (!less.isEmpty() && !NAMES.contains(less)) {
                fits(less + ": j " + less + ";", 1);
            }
            String more = name + "a";
            if (more.length() <= 6) {
                fits(more + ": j " + more + ";", 1);
            }
        }
    }

    /** A LABEL is told by all its letters. */
    private static void unlikeLabels() {
        String[] names = {"a", "aa", "ab", "ba", "b", "aaaaaa", "aaaaab", "baaaaa", "zzzzzz", "zzzzzy", "z"};
        StringBuilder text = new StringBuilder();
        for (String name : names) {
            text.append(name).append(": ldpi ").append(name).append(";");
        }
        MeetingMachines x = Due.of(text.toString());
        due.is("LABELS", x.count(1), names.length);
        for (int k = 0; k < names.length; k++) {
            due.is("label(" + k + ")", x.label(k), k);
            due.is("ldpi " + names[k], x.code(k, 1), k);
        }
    }

    /** "a LABEL (told anywhere)": ahead, at the INSTRUCTION itself, behind, at the last one. */
    private static void labelsToldAnywhere() {
        MeetingMachines x = Due.of("run 0 20 0 z; j z; a: j a; cj a; z: ldpi a;");
        due.is("behind", x.code(0, 1), 3);
        due.is("at itself", x.code(1, 1), 1);
        due.is("ahead", x.code(2, 1), 1);
        due.is("a run ahead of it", x.word(0, 19), 3);
        due.is("numbered as they are told", x.label(0), 1);
        due.is("numbered as they are told", x.label(1), 3);
    }

    private static void bounds(String ahead, int least, int most, String behind) {
        due.yes(ahead + least + behind, answer(ahead + least + behind) >= 0);
        due.yes(ahead + most + behind, answer(ahead + most + behind) >= 0);
        fault(ahead + (least - 1) + behind, ahead.length(), 3);
        fault(ahead + (most + 1) + behind, ahead.length(), 3);
        fault(ahead + "-9999" + behind, ahead.length(), 3);
        fault(ahead + "9999" + behind, ahead.length(), 3);
    }

    /** "3 a NUMBER that can't be": each with its least and its most. */
    private static void numbersThatCanBe() {
        bounds("slice ", 1, 60, ";");
        bounds("word ", 0, 1, " 0 0;");
        bounds("word 1 ", 0, 95, " 0;");
        bounds("join ", 0, 1, " 0 0 0;");
        bounds("join 1 ", 0, 1, " 0 0;");
        bounds("join 0 1 ", 0, 1, " 1;");
        bounds("join 0 1 0 ", 0, 1, ";");
        bounds("a: halt; run ", 0, 1, " 20 0 a;");
        bounds("a: halt; run 1 ", 5, 95, " 0 a;");
        bounds("a: halt; run 1 20 ", 0, 1, " a;");
        for (String op : PlainModel.OPS.subList(0, 7)) {
            due.is(op, Due.of(op + " -9999;").code(0, 1), -9999);
            due.is(op, Due.of(op + " 9999;").code(0, 1), 9999);
        }
        MeetingMachines x = Due.of("word 0 0 -9999; word 1 95 9999; slice 60;");
        due.is("what stands there at first", x.word(0, 0), -9999);
        due.is("what stands there at first", x.word(1, 95), 9999);
        due.is("nothing told", x.word(1, 0), -1);
        due.is("SLICE", x.count(3), 60);
        due.is("SLICE without", Due.of("halt;").count(3), 8);
    }

    /** "the same machine may be both", the same LINK too; "2 .. a LINK that sends (receives) by a JOIN already". */
    private static void joinsOfOneMachine() {
        due.is("four JOINS", Due.of("join 0 0 0 0; join 0 1 0 1; join 1 0 1 0; join 1 1 1 1;").count(2), 4);
        due.is("crossed", Due.of("join 0 0 0 1; join 0 1 0 0; join 1 0 1 1; join 1 1 1 0;").count(2), 4);
        fault("join 0 0 0 0; join 0 0 0 1;", 21, 2);
        fault("join 0 0 0 0; join 0 1 0 0;", 25, 2);
        fault("join 0 0 0 0; join 0 0 0 0;", 21, 2);
        fault("join 1 1 0 0; join 1 0 1 1; join 0 0 0 1; join 1 1 1 0;", 49, 2);
        fits("join 0 0 1 0; join 1 0 0 0;", 0);
    }

    /** "INSTRUCTION (up to 100 ..)"; "4 .. the OP of one too many": other LINES go on. */
    private static void hundredInstructions() {
        String hundred = "in;".repeat(100);
        fits(hundred, 100);
        fits(hundred + "slice 5; word 0 0 0; join 0 0 0 0;", 100);
        fault(hundred + "in;", 300, 4);
        fault(hundred + "ldc;", 300, 4);
        fault(hundred + "abc : in;", 306, 4);
        fault(hundred + "abc in;", 304, 1);
        fault(hundred + "abc: slice 5;", 305, 1);
        fault(hundred + "?", 300, 1);
        MeetingMachines x = Due.of("in;".repeat(99) + "z: out; run 0 20 0 z;");
        due.is("the last one's OP", x.code(99, 0), 26);
        due.is("its LABEL", x.label(0), 99);
        due.is("I of a run", x.word(0, 19), 99);
    }

    /** As many LABELS as INSTRUCTIONS: each is one of its own. */
    private static void hundredLabels() {
        StringBuilder text = new StringBuilder();
        int many = 0;
        for (int k = 0; k < 26 * 27 && many < 101; k++) {
            String name = (k < 26 ? "" : "" + (char) ('a' + k / 26 - 1)) + (char) ('a' + k % 26);
            if (!NAMES.contains(name)) {
                many++;
                text.append(name).append(many == 101 ? ":" : ":in;");
            }
        }
        fault(text + "in;", text.length(), 4);
        String hundred = text.substring(0, text.lastIndexOf(";") + 1);
        MeetingMachines x = Due.of(hundred + "run 1 95 1 a;");
        due.is("LABELS", x.count(1), 100);
        for (int k = 0; k < 100; k++) {
            due.is("label(" + k + ")", x.label(k), k);
        }
        due.is("label(100)", x.label(100), -1);
        due.is("label(-1)", x.label(-1), -1);
    }

    /** "up to 12, in order"; "4 the WORD run .. of one too many". */
    private static void twelveRuns() {
        StringBuilder text = new StringBuilder("a: halt;");
        for (int k = 0; k < 12; k++) {
            text.append("run 0 ").append(10 + 7 * k).append(" 1 a;");
        }
        MeetingMachines x = Due.of(text.toString());
        due.is("twelve", x.queue(0, 1, -1), 12);
        for (int k = 0; k < 12; k++) {
            due.is("in order", x.queue(0, 1, k), 2 * (10 + 7 * k) + 1);
        }
        fault(text + "run 1 20 0 a;", text.length(), 4);
        fault(text + " run", text.length() + 1, 4);
        fits(text + "slice 5;", 1);
    }

    /** "when all words are told": no later word stands at W - 1 or W - 2. */
    private static void runsBehindAllWords() {
        MeetingMachines x = Due.of("run 0 20 0 a; run 0 30 0 a; word 0 19 77; word 0 18 66; word 0 29 55; word 0 28 44;"
                + "halt; a: halt;");
        due.is("I of the first", x.word(0, 19), 1);
        due.is("the first one's QUEUE", x.word(0, 18), 60);
        due.is("I of the second", x.word(0, 29), 1);
        due.is("nobody is behind the second", x.word(0, 28), 44);
    }

    /** "the end: how many bytes there are", blanks behind the last TOKEN too. */
    private static void placeOfTheEnd() {
        for (String line : new String[] {"halt", "a", "a:", "a: ldc", "ldc 5", "j", "j a", "slice", "slice 5", "word 0",
            "join 0 0 1", "join 0 0 1 0", "run 0 20 0", "run 0 20 0 a"}) {
            fault(line, line.length(), 1);
            fault("halt; " + line + " \n ", line.length() + 9, 1);
        }
    }

    /** "FAULTS, the one whose place is least". */
    private static void leastPlace() {
        fault("slice 61; ?", 6, 3);
        fault("? slice 61;", 0, 1);
        fault("slice 5; a: halt; slice 6; a: halt;", 18, 2);
        fault("a: halt; a: halt; slice 99;", 9, 2);
        fault("word 2 96 5;", 5, 3);
        fault("word 0 96 x;", 7, 3);
        fault("word 0 5 x;", 9, 1);
        fault("join 0 0 0 0; join 0 0 0 2;", 21, 2);
        fault("join 0 0 0 0; join 0 0 ?", 21, 2);
        fault("join 0 0 0 0; join 0 2 0 0;", 21, 3);
        fault("a: halt; a halt;", 9, 2);
        fault("slice 1; slice", 9, 2);
    }

    /** "If there is none of these: 5 the first LABEL .. that is told nowhere", of an INSTRUCTION or of run. */
    private static void toldNowhereOnlyIfNoneElse() {
        fault("j x;", 2, 5);
        fault("cj x;", 3, 5);
        fault("ldpi x;", 5, 5);
        fault("run 0 20 0 x;", 11, 5);
        fault("run 0 20 0 x; j y;", 11, 5);
        fault("j y; run 0 20 0 x;", 2, 5);
        fault("x: j x; j xx; j y;", 10, 5);
        fault("j x; slice 0;", 11, 3);
        fault("j x; slice 1; slice 1;", 14, 2);
        fault("j x", 3, 1);
        fault("j x;" + "in;".repeat(100), 4 + 99 * 3, 4);
    }

    /** "is the PROGRAM from now on": of those ahead of it nothing is left, be it one with a FAULT or none. */
    private static void nothingLeftOfThoseAhead() {
        String rich = "slice 3; word 0 50 5; join 0 0 1 0; join 1 1 0 1; a: ldc 7; b: j a; run 0 20 0 b; run 1 30 1 b;";
        String[] told = {rich, rich + "?", rich, rich + "slice 3;", rich, rich, rich + "j c;", rich};
        MeetingMachines x = new MeetingMachines();
        for (String text : told) {
            Due.tape(x, text);
            x.text();
            Due.tape(x, "c: halt;");
            due.is("one INSTRUCTION", x.text(), 1);
            due.is("INSTRUCTIONS", x.count(0), 1);
            due.is("LABELS", x.count(1), 1);
            due.is("JOINS", x.count(2), 0);
            due.is("SLICE", x.count(3), 8);
            due.is("word", x.word(0, 50), -1);
            due.is("QUEUE", x.queue(0, 0, -1), 0);
            due.is("QUEUE", x.queue(1, 1, -1), 0);
            due.is("code(0, 0)", x.code(0, 0), 38);
            due.is("code(0, 1)", x.code(0, 1), 0);
            due.is("label(0)", x.label(0), 0);
            due.lacks("code(1, 0)", () -> x.code(1, 0));
        }
    }

    /** "NoSuchElementException: no such ones"; "NONE: there is none"; "NONE: no such INSTRUCTION". */
    private static void noSuchInstruction() {
        MeetingMachines x = Due.of("a: halt; b: ldc 5;");
        for (int i : new int[] {-1, 2, Integer.MAX_VALUE, Integer.MIN_VALUE}) {
            due.lacks("code(" + i + ", 0)", () -> x.code(i, 0));
            due.lacks("code(" + i + ", 1)", () -> x.code(i, 1));
            due.is("label(" + i + ")", x.label(i), -1);
            due.is("reach(" + i + ", -1)", x.reach(i, -1), -1);
            due.is("reach(" + i + ", 0)", x.reach(i, 0), -1);
            due.is("reach(" + i + ", -2): NONE goes ahead", x.reach(i, -2), -1);
        }
        for (int what : new int[] {-1, 2, Integer.MAX_VALUE, Integer.MIN_VALUE}) {
            due.lacks("code(0, " + what + ")", () -> x.code(0, what));
            due.is("reach(1, " + what + ")", x.reach(1, what), what == -1 ? 1 : -2);
            due.is("hog(" + what + ")", x.hog(what), what == -1 ? 0 : -2);
        }
        due.is("the last one's OP", x.code(1, 0), 0);
        due.is("the last one's NUMBER", x.code(1, 1), 5);
        due.is("NUMBER of one without", x.code(0, 1), 0);
        due.is("the last LABEL", x.label(1), 1);
    }

    /** "A WAY: from an INSTRUCTION to the next one": from the last one there is none. */
    private static void waysEndBehindTheLast() {
        due.is("alone", Due.of("add;").reach(0, -1), 1);
        due.is("itself", Due.of("add;").reach(0, 0), 0);
        due.is("no more", Due.of("add;").reach(0, 1), -2);
        MeetingMachines x = Due.of("add;".repeat(100));
        due.is("a hundred", x.reach(0, -1), 100);
        due.is("the hundredth", x.reach(0, 99), 99);
        due.is("no more", x.reach(0, 100), -2);
        due.is("from the last", x.reach(99, -1), 1);
        due.is("cj at the end", Due.of("a: cj a;").reach(0, -1), 1);
    }

    /** "from j to its LABEL's alone, from cj to that, too; from endp, altend, halt to none"; all others go on. */
    private static void waysOfEachOp() {
        for (int op = 0; op < 39; op++) {
            String name = PlainModel.OPS.get(op);
            MeetingMachines x = Due.of(name + (op < 7 ? " 5" : op < 10 ? " z" : "") + "; add; halt; z: add;");
            boolean goesOn = !List.of("j", "endp", "altend", "halt").contains(name);
            boolean jumps = name.equals("j") || name.equals("cj");
            due.is("reach by " + name, x.reach(0, -1), 1 + (goesOn ? 2 : 0) + (jumps ? 1 : 0));
            if (jumps) {
                due.is("the LABEL's by " + name, x.reach(0, goesOn ? 3 : 1), 3);
            }
            if (goesOn) {
                due.is("the next by " + name, x.reach(0, 1), 1);
            }
        }
    }

    /** "from which one comes to them again by WAYS, none of them out of a j". */
    private static void hogsComeBackToThemselves() {
        due.is("no way back", Due.of("add; add;").hog(-1), 0);
        due.is("by j", Due.of("a: add; j a;").hog(-1), 0);
        due.is("by j to itself", Due.of("a: j a;").hog(-1), 0);
        MeetingMachines x = Due.of("ldc 0; a: cj b; halt; b: ldc 0; c: cj a; cj c; j a;");
        due.is("by cj", x.hog(-1), 4);
        due.is("first", x.hog(0), 1);
        due.is("second", x.hog(1), 3);
        due.is("third", x.hog(2), 4);
        due.is("last", x.hog(3), 5);
        due.is("no more", x.hog(4), -2);
        x = Due.of("a: add;" + "add;".repeat(98) + "cj a;");
        due.is("a hundred", x.hog(-1), 100);
        due.is("the hundredth", x.hog(99), 99);
    }
}
