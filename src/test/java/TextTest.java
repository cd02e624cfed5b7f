/** Promises 1 to 8: THE TAPE, the PROGRAM and its FAULTS, WAYS. */
public final class TextTest {
    private static final Due due = new Due();

    public static void main(String[] args) {
        promise1NewObject();
        promise2Feed();
        promise3End();
        promise4Text();
        promise4BeginsAnew();
        promise4Faults();
        promise4BoundsOfLines();
        promise4CutTape();
        promise4AllElseStays();
        promise5Code();
        promise6Label();
        promise7Reach();
        promise8Hog();
        due.end();
    }

    private static void promise1NewObject() {
        MeetingMachines x = new MeetingMachines();
        for (int what = 0; what < 8; what++) {
            due.is("new: count(" + what + ")", x.count(what), what == 3 ? 8 : 0);
        }
        for (int m = 0; m < 2; m++) {
            for (int place = 0; place < 96; place++) {
                due.is("new: word", x.word(m, place), -1);
            }
            due.is("new: CLOCK", x.machine(m, 6), 0);
            due.is("new: HALTED", x.machine(m, 7), 0);
            due.is("new: W", x.machine(m, 4), -1);
        }
        due.is("new: undo()", x.undo(), -1);
        due.no("new: back(0)", x.back(0));
        due.yes("new: stuck()", x.stuck());
    }

    private static void promise2Feed() {
        MeetingMachines x = new MeetingMachines();
        due.is("first feed", x.feed(0x736c6963, 0x65203137, 0x3b20200a, 0x6c646320, 0x2d37373b), 20);
        due.is("slice 17; ldc -77;", x.text(), 1);
        due.is("SLICE", x.count(3), 17);
        due.is("NUMBER", x.code(0, 1), -77);
        for (int k = 1; k <= 35; k++) {
            due.is("feed", x.feed(0x20202020, 0x20202020, 0x20202020, 0x20202020, 0x20202020), 20 * k);
        }
        due.is("a feed too many", x.feed(1, 2, 3, 4, 5), -1);
        due.is("bytes then", x.count(7), 700);
        x.end(681);
        due.is("feed behind 681", x.feed(1, 2, 3, 4, 5), -1);
        due.is("bytes then", x.count(7), 681);
        x.end(680);
        due.is("feed behind 680", x.feed(0x20202020, 0x20202020, 0x20202020, 0x20202020, 0x20202020), 700);
        due.is("700 blanks", x.text(), 0);
        x.feed(0x80202020, -1, 0, 0, 0);
        due.is("byte 128", x.text(), Due.fault(0, 1));
    }

    private static void promise3End() {
        MeetingMachines x = new MeetingMachines();
        due.no("end(1) of none", x.end(1));
        due.yes("end(0) of none", x.end(0));
        Due.tape(x, "halt; halt; halt; ha");
        due.no("end(-1)", x.end(-1));
        due.no("end(21)", x.end(21));
        due.is("bytes then", x.count(7), 20);
        due.yes("end(20)", x.end(20));
        due.yes("end(12)", x.end(12));
        due.no("end(13) then", x.end(13));
        due.is("text()", x.text(), 2);
    }

    private static void promise4Text() {
        MeetingMachines x = Due.of("slice 3; word 1 7 -5; word 1 7 6; join 0 1 1 0;\nb: halt;run 1 30 0 b; run 1 40 0 b;");
        due.is("SLICE", x.count(3), 3);
        due.is("a word told twice", x.word(1, 7), 6);
        due.is("the other machine's", x.word(0, 7), -1);
        due.is("JOINS", x.count(2), 1);
        due.is("bytes", x.count(7), 0);
        due.is("I of a run", x.word(1, 29), 0);
        due.is("QUEUE", x.queue(1, 0, -1), 2);
        due.is("first of it", x.queue(1, 0, 0), 60);
        due.is("second of it", x.queue(1, 0, 1), 80);
        x.tick(2);
        x.keep(0);
        x.slice(5);
        Due.tape(x, "run 0 20 1 b; word 0 19 44; a: halt; b: halt;");
        due.is("text()", x.text(), 2);
        due.is("SLICE without", x.count(3), 8);
        due.is("a run comes behind all words", x.word(0, 19), 1);
        due.is("JOINS", x.count(2), 0);
        due.is("TICKS", x.count(4), 0);
        due.is("ACTS", x.count(6), 0);
        due.is("undo()", x.undo(), -1);
        due.no("back(0)", x.back(0));
        due.is("word", x.word(1, 7), -1);
        due.is("CLOCK", x.machine(1, 6), 0);
        due.is("HALTED", x.machine(1, 7), 0);
    }

    private static void promise4BeginsAnew() {
        MeetingMachines x = Due.of("join 1 0 0 0; s: ldc 70; ldc 0; ldc 2; out; t: ldc 900; tin; stopp;"
                + "m: ldc 70; ldc 60; ldc 1; in; stopp; n: ldc 70; ldc 60; ldc 1; out; c: ldc 3; ldc 1; enbc; stopp;"
                + "run 1 20 0 s; run 0 30 0 t; run 0 40 0 m; run 0 50 0 n;");
        x.tick(30);
        due.is("a MEETING", x.count(5), 1);
        due.is("FULL", x.link(0, 0, 4), 1);
        due.is("TIMERS", x.machine(0, 10), 1);
        due.is("ALT", x.link(0, 1, 6), 100);
        x.keep(0);
        x.keep(1);
        Due.tape(x, "");
        due.is("text() of nothing", x.text(), 0);
        due.is("MEETINGS", x.count(5), 0);
        due.is("meeting(0, 0)", x.meeting(0, 0), -1);
        due.is("TICKS", x.count(4), 0);
        due.is("FULL", x.link(0, 0, 4), 0);
        due.is("ALT", x.link(0, 1, 6), -1);
        due.is("who sends", x.link(1, 0, 0), -1);
        due.is("left to send", x.link(1, 0, 1), 0);
        due.is("TIMERS", x.machine(0, 10), 0);
        due.is("word", x.word(0, 70), -1);
        due.no("back(0)", x.back(0));
        due.no("back(1)", x.back(1));
        due.yes("stuck()", x.stuck());
    }

    private static void fault(String text, int place, int kind) {
        MeetingMachines x = new MeetingMachines();
        Due.tape(x, text);
        due.is("text() of " + text, x.text(), Due.fault(place, kind));
    }

    private static void fits(String text, int size) {
        MeetingMachines x = new MeetingMachines();
        Due.tape(x, text);
        due.is("text() of " + text, x.text(), size);
    }

    private static void promise4Faults() {
        fits("", 0);
        fits(" \n ", 0);
        fault("ldc", 3, 1);
        fault("ldc 1", 5, 1);
        fault("ldc 1 ", 6, 1);
        fault("ldc ;", 4, 1);
        fault("ldc 1;;", 6, 1);
        fault(";", 0, 1);
        fits("ldc1;ldc-5;ldc 0;ldc -0;ldc 0001;ldc -9999;", 6);
        fits("\nhalt\n;\n halt ;", 2);
        fault("halt;\thalt;", 5, 1);
        fault("Halt;", 0, 1);
        fault("halt; halt, halt;", 10, 1);
        fault("ldc 12345;", 4, 1);
        fault("ldc -12345;", 4, 1);
        fault("ldc - 1;", 4, 1);
        fault("ldc --1;", 4, 1);
        fault("ldc 1-;", 5, 1);
        fault("ldc 1-1;", 5, 1);
        fits("abcdef: halt; j abcdef;", 2);
        fault("abcdefg: halt;", 0, 1);
        fault("halt; j abcdefg;", 8, 1);
        fault("haltx;", 5, 1);
        fault("a:;", 2, 1);
        fault("a halt;", 2, 1);
        fault("a: b: halt;", 3, 1);
        fault("a: slice 5;", 3, 1);
        fault("halt: halt;", 4, 1);
        fault("run: halt;", 3, 1);
        fault("halt 5;", 5, 1);
        fault("5;", 0, 1);
        fault(": halt;", 0, 1);
        fault("j j;", 2, 1);
        fault("j run;", 2, 1);
        fault("j 5;", 2, 1);
        fault("ldc x;", 4, 1);
        fault("run 0 20 0 add;", 11, 1);
        fault("run 0 20 a;", 9, 1);
        fault("join 0 0 1;", 10, 1);
        fault("word 0 0 0 0;", 11, 1);
    }

    /** What stood behind the end is not of THE TAPE. */
    private static void promise4CutTape() {
        MeetingMachines x = new MeetingMachines();
        Due.tape(x, "abcdefghij");
        x.end(6);
        due.is("a WORD of 6", x.text(), Due.fault(6, 1));
        Due.tape(x, "ldc 12345");
        x.end(8);
        due.is("a NUMBER of 4", x.text(), Due.fault(8, 1));
    }

    private static void promise4BoundsOfLines() {
        fits("slice 1;", 0);
        fits("slice 60;", 0);
        fault("slice 0;", 6, 3);
        fault("slice 61;", 6, 3);
        fault("slice -1;", 6, 3);
        fault("slice 5; slice 5;", 9, 2);
        fault("slice 5; slice;", 9, 2);
        fault("slice 0; ?", 6, 3);
        fits("word 0 0 -9999; word 1 95 9999;", 0);
        fault("word 2 0 0;", 5, 3);
        fault("word -1 0 0;", 5, 3);
        fault("word 0 96 0;", 7, 3);
        fault("word 0 -1 0;", 7, 3);
        fits("join 0 0 0 0; join 0 1 0 1; join 1 0 1 1; join 1 1 1 0;", 0);
        fault("join 2 0 1 0;", 5, 3);
        fault("join 0 2 1 0;", 7, 3);
        fault("join 0 0 2 0;", 9, 3);
        fault("join 0 0 0 2;", 11, 3);
        fault("join 0 0 1 0; join 0 0 1 1;", 21, 2);
        fault("join 0 0 1 0; join 0 1 1 0;", 25, 2);
        fault("join 0 0 1 0; join 0 0 ?", 21, 2);
        fits("a: halt; run 0 5 0 a; run 1 95 1 a;", 1);
        fault("run 2 20 0 a; a: halt;", 4, 3);
        fault("run 0 4 0 a; a: halt;", 6, 3);
        fault("run 0 96 0 a; a: halt;", 6, 3);
        fault("run 0 20 2 a; a: halt;", 9, 3);
        fault("run 0 20 -1 a; a: halt;", 9, 3);
        fault("a: halt; a: halt;", 9, 2);
        fault("a: halt; a halt;", 9, 2);
        String runs = "run 0 20 0 a;".repeat(12);
        fits("a: halt;" + runs, 1);
        fault("a: halt;" + runs + "run", 8 + 12 * 13, 4);
        fits("in;".repeat(100), 100);
        fault("in;".repeat(100) + " in;", 301, 4);
        fault("in;".repeat(100) + "a: in;", 303, 4);
        fault("in;".repeat(100) + "a: a", 303, 1);
        fits("a:" + "j a;".repeat(100) + "run 0 9 0 a;".repeat(12), 100);
        fault("a:" + "j a;".repeat(100) + "run 0 9 0 a;".repeat(11) + "run 0 9 0 b;", 2 + 400 + 11 * 12 + 10, 5);
        fault("j x;", 2, 5);
        fault("halt; run 0 20 0 x; j y;", 17, 5);
        fault("a: halt; j a; cj y; run 0 9 0 x;", 17, 5);
        fault("ldpi x; ldc 1;;", 14, 1);
        fault("j x; slice 0;", 11, 3);
    }

    private static void promise4AllElseStays() {
        MeetingMachines x = Due.of("slice 9; a: clock; j a; run 0 20 1 a;");
        x.tick(3);
        x.keep(1);
        Due.tape(x, "slice 3; b: halt; b");
        due.is("a FAULT", x.text(), Due.fault(18, 2));
        due.is("bytes", x.count(7), 0);
        due.is("SLICE", x.count(3), 9);
        due.is("INSTRUCTIONS", x.count(0), 2);
        due.is("LABELS", x.count(1), 1);
        due.is("OP", x.code(1, 0), 7);
        due.is("TICKS", x.count(4), 3);
        due.is("ACTS", x.count(6), 1);
        due.is("I", x.machine(0, 3), 1);
        due.is("undo()", x.undo(), 0);
        due.yes("back(1)", x.back(1));
    }

    private static void lacks(MeetingMachines x, int i, int what) {
        due.lacks("code(" + i + ", " + what + ")", () -> x.code(i, what));
    }

    private static void promise5Code() {
        StringBuilder text = new StringBuilder("stopp;x:");
        for (int op = 0; op < 39; op++) {
            text.append(PlainModel.OPS.get(op)).append(op < 7 ? " " + (op - 3) : op < 10 ? " x" : "").append(';');
        }
        MeetingMachines x = Due.of(text.toString());
        due.is("INSTRUCTIONS", x.count(0), 40);
        for (int op = 0; op < 39; op++) {
            due.is("code(" + (op + 1) + ", 0)", x.code(op + 1, 0), op);
            due.is("code(" + (op + 1) + ", 1)", x.code(op + 1, 1), op < 7 ? op - 3 : op < 10 ? 1 : 0);
        }
        lacks(x, -1, 0);
        lacks(x, 40, 0);
        lacks(x, 40, 1);
        lacks(x, 0, 2);
        lacks(x, 0, -1);
        lacks(new MeetingMachines(), 0, 0);
    }

    private static void promise6Label() {
        MeetingMachines x = Due.of("j z; halt; z: halt; halt; b: j b; a: halt;");
        due.is("LABELS", x.count(1), 3);
        due.is("label(0)", x.label(0), 2);
        due.is("label(1)", x.label(1), 4);
        due.is("label(2)", x.label(2), 5);
        due.is("label(3)", x.label(3), -1);
        due.is("label(-1)", x.label(-1), -1);
    }

    private static void reached(MeetingMachines x, int from, int... expected) {
        due.is("reach(" + from + ", NONE)", x.reach(from, -1), expected.length);
        for (int k = 0; k < expected.length; k++) {
            due.is("reach(" + from + ", " + k + ")", x.reach(from, k), expected[k]);
        }
        due.is("reach(" + from + ", too many)", x.reach(from, expected.length), -2);
        due.is("reach(" + from + ", -2)", x.reach(from, -2), -2);
    }

    private static void promise7Reach() {
        // 0 cj, 1 stopp, 2 j, 3 ldc, 4 endp, 5 altend, 6 halt, 7 ldpi, 8 altwt
        MeetingMachines x = Due.of("a: cj c; stopp; j d; ldc 1; endp; c: altend; halt; d: ldpi a; altwt;");
        reached(x, 0, 0, 1, 2, 5, 7, 8);
        reached(x, 1, 1, 2, 7, 8);
        reached(x, 2, 2, 7, 8);
        reached(x, 3, 3, 4);
        reached(x, 4, 4);
        reached(x, 5, 5);
        reached(x, 6, 6);
        reached(x, 8, 8);
        reached(Due.of("b: add; j b; add;"), 1, 0, 1);
        due.is("reach(9, NONE)", x.reach(9, -1), -1);
        due.is("reach(-1, NONE)", x.reach(-1, -1), -1);
        due.is("reach(9, -2)", x.reach(9, -2), -1);
    }

    private static void hogs(String text, int... expected) {
        MeetingMachines x = Due.of(text);
        due.is("hog(NONE) of " + text, x.hog(-1), expected.length);
        for (int k = 0; k < expected.length; k++) {
            due.is("hog(" + k + ") of " + text, x.hog(k), expected[k]);
        }
        due.is("hog(too many) of " + text, x.hog(expected.length), -2);
        due.is("hog(-2) of " + text, x.hog(-2), -2);
    }

    private static void promise8Hog() {
        hogs("");
        hogs("a: cj a;", 0);
        hogs("a: j a;");
        hogs("halt; a: clock; eqc 5; cj a; halt;", 1, 2, 3);
        hogs("a: clock; cj b; j a; b: cj c; halt; c: altend;");
        hogs("a: clock; cj b; stopp; b: endp; c: cj c; cj a;", 4);
        hogs("a: clock; cj b; stopp; halt; b: cj a; c: dup; cj c; j a;", 0, 1, 4, 5, 6);
        hogs("a: cj b; j c; b: dup; c: cj a;", 0, 2, 3);
    }
}
