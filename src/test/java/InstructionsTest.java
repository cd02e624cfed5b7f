/** What each INSTRUCTION does to who runs, MEMORY and QUEUES, and what HALTS a machine. */
public final class InstructionsTest {
    private static final Due due = new Due();

    public static void main(String[] args) {
        wordsOfWhoRuns();
        wordsOfMemory();
        bounds();
        jumps();
        slices();
        startpAndEndp();
        stoppAndRunp();
        haltedTickIsUndone();
        due.end();
    }

    /** Machine 0 with a HIGH process at W 20 that did a code from its first INSTRUCTION on. */
    private static MeetingMachines after(int ticks, String code) {
        MeetingMachines x = Due.of("a: " + code + " run 0 20 0 a;");
        x.tick(ticks);
        return x;
    }

    private static void has(String code, int ticks, int a, int b, int c) {
        MeetingMachines x = after(ticks, code);
        due.is(code + " A", x.machine(0, 0), a);
        due.is(code + " B", x.machine(0, 1), b);
        due.is(code + " C", x.machine(0, 2), c);
        due.is(code + " HALTED", x.machine(0, 7), 0);
    }

    private static void halts(String code, int ticks) {
        MeetingMachines x = after(ticks - 1, code);
        due.is(code + " is not HALTED yet", x.machine(0, 7), 0);
        x.tick(1);
        due.is(code + " HALTED", x.machine(0, 7), 1);
    }

    private static void wordsOfWhoRuns() {
        has("ldc 1; ldc 2; ldc 3;", 3, 3, 2, 1);
        has("ldc 1; ldc 2; ldc 3; ldc -4;", 4, -4, 3, 2);
        String three = "ldc 1; ldc 2; ldc 3; ";
        has(three + "add;", 4, 5, 1, 1);
        has(three + "sub;", 4, -1, 1, 1);
        has(three + "mul;", 4, 6, 1, 1);
        has(three + "gt;", 4, 0, 1, 1);
        has(three + "rev; gt;", 5, 1, 1, 1);
        has("ldc 2; ldc 2; gt;", 3, 0, 0, 0);
        has(three + "rev;", 4, 2, 3, 1);
        has(three + "dup;", 4, 3, 3, 2);
        has(three + "adc -4;", 4, -1, 2, 1);
        has(three + "eqc 3;", 4, 1, 2, 1);
        has(three + "eqc 2;", 4, 0, 2, 1);
        has(three + "ldlp 76;", 4, 96, 3, 2);
        has(three + "ldlp -21;", 4, -1, 3, 2);
        has(three + "ldpri;", 4, 0, 3, 2);
        has(three + "clock;", 4, 3, 3, 2);
        has(three + "b: ldpi b;", 4, 3, 3, 2);
        has("ldc 9999; dup; mul; dup; mul; dup; mul;", 7, overflow(), 0, 0);
        MeetingMachines x = Due.of("a: ldpri; run 1 30 1 a;");
        x.tick(1);
        due.is("ldpri of a LOW one", x.machine(1, 0), 1);
    }

    private static int overflow() {
        int two = 9999 * 9999;
        int four = two * two;
        return four * four;
    }

    private static void wordsOfMemory() {
        has("ldc 6; ldc 7; ldc 8; stl 3; ldl 3;", 5, 8, 7, 6);
        has("ldc 6; ldc 7; ldc 8; stl 3;", 4, 7, 6, 6);
        has("ldc 44; stl -20; ldl -20;", 3, 44, 0, 0);
        has("ldc 44; stl 75; ldl 75;", 3, 44, 0, 0);
        has("ldc 5; ldc 44; ldc 95; store;", 4, 5, 5, 5);
        has("ldc 44; ldc 95; store; ldc 95; load;", 5, 44, 0, 0);
        MeetingMachines x = after(3, "ldc 44; ldc 0; store;");
        due.is("store at 0", x.word(0, 0), 44);
        due.is("store on the other machine", x.word(1, 0), -1);
        x = after(2, "ldc 5; ajw 75;");
        due.is("W by ajw", x.machine(0, 4), 95);
        due.is("A by ajw", x.machine(0, 0), 5);
        due.is("W by ajw", after(1, "ajw -15;").machine(0, 4), 5);
    }

    private static void bounds() {
        halts("ldl 76;", 1);
        halts("ldl -21;", 1);
        halts("stl 76;", 1);
        halts("stl -21;", 1);
        halts("ajw 76;", 1);
        halts("ajw -16;", 1);
        halts("ldc 96; load;", 2);
        halts("ldc -1; load;", 2);
        halts("ldc 96; store;", 2);
        halts("ldc 4; startp;", 2);
        halts("ldc 96; startp;", 2);
        halts("ldc 95; endp;", 2);
        halts("ldc -2; endp;", 2);
        halts("ldc 9; runp;", 2);
        halts("ldc 192; runp;", 2);
        halts("ldc -1; runp;", 2);
        halts("halt;", 1);
        halts("ldc 5;", 2);
        halts("altend;", 2);
        halts("ldc 3; stl 0; altend; ldc 5;", 5);
    }

    private static void jumps() {
        MeetingMachines x = after(2, "ldc 5; j b; halt; b: halt;");
        due.is("I by j", x.machine(0, 3), 3);
        due.is("A by j", x.machine(0, 0), 5);
        x = after(3, "ldc 5; ldc 0; cj b; halt; b: halt;");
        due.is("I by cj at 0", x.machine(0, 3), 4);
        due.is("A by cj at 0", x.machine(0, 0), 0);
        due.is("B by cj at 0", x.machine(0, 1), 5);
        x = after(3, "ldc 5; ldc -1; cj b; halt; b: halt;");
        due.is("I by cj", x.machine(0, 3), 3);
        due.is("A by cj", x.machine(0, 0), 5);
    }

    private static void slices() {
        MeetingMachines x = Due.of("slice 4; a: adc 1; j a; run 0 20 1 a; run 0 30 1 a;");
        x.tick(3);
        due.is("W at 3", x.machine(0, 4), 20);
        due.is("A at 3", x.machine(0, 0), 2);
        x.tick(1);
        due.is("W at 4", x.machine(0, 4), -1);
        due.is("QUEUE at 4", x.queue(0, 1, 0), 61);
        due.is("QUEUE at 4", x.queue(0, 1, 1), 41);
        due.is("I at W - 1", x.word(0, 19), 0);
        x.tick(1);
        due.is("W at 5", x.machine(0, 4), 30);
        due.is("did at 5", x.machine(0, 8), 1);
        x.slice(1);
        x.tick(1);
        due.is("W at 6", x.machine(0, 4), -1);
        x = Due.of("slice 1; a: adc 1; j a; run 0 20 0 a; run 0 30 0 a;");
        x.tick(50);
        due.is("a HIGH one goes on", x.machine(0, 4), 20);
        due.is("what it did", x.machine(0, 8), 50);
        // endp goes on counting: the j behind it is the 5th INSTRUCTION
        x = Due.of("slice 5; word 0 41 1; word 0 40 0; a: j b; b: ldc 40; dup; endp; run 0 20 1 b;");
        x.tick(3);
        due.is("W behind endp", x.machine(0, 4), 40);
        due.is("I behind endp", x.machine(0, 3), 0);
        due.is("A behind endp", x.machine(0, 0), 0);
        due.is("did behind endp", x.machine(0, 8), 3);
        x.tick(1);
        due.is("did by the first j", x.machine(0, 8), 4);
        x = Due.of("slice 4; word 0 41 1; word 0 40 0; a: j b; b: ldc 40; dup; endp; run 0 20 1 b;");
        x.tick(4);
        due.is("OFF by the j behind endp", x.machine(0, 4), -1);
        due.is("QUEUE then", x.queue(0, 1, 0), 81);
    }

    private static void startpAndEndp() {
        MeetingMachines x = after(4, "ldc 7; ldc 33; ldc 50; startp;");
        due.is("I at W - 1", x.word(0, 49), 33);
        due.is("QUEUE", x.queue(0, 0, 0), 100);
        due.is("A", x.machine(0, 0), 7);
        due.is("B", x.machine(0, 1), 7);
        x = Due.of("a: ldc 0; ldc 50; startp; run 1 20 1 a;");
        x.tick(3);
        due.is("QUEUE of its PRIORITY", x.queue(1, 1, 0), 101);
        // the one that ends last goes on at the word at A
        x = Due.of("word 0 40 2; word 0 41 2; a: ldc 40; endp; ldpri; run 0 20 0 a; run 0 30 0 a;");
        x.tick(2);
        due.is("nobody runs", x.machine(0, 4), -1);
        due.is("the word at A + 1", x.word(0, 41), 1);
        due.is("I is not kept", x.word(0, 19), 0);
        x.tick(2);
        due.is("the word at A + 1", x.word(0, 41), 0);
        due.is("W", x.machine(0, 4), 40);
        due.is("I", x.machine(0, 3), 2);
        // A is not looked at while others are left
        x = after(2, "ldc -1; endp;");
        due.is("place 0", x.word(0, 0), -2);
        due.is("HALTED", x.machine(0, 7), 0);
        x = Due.of("word 0 0 1; a: ldc -1; endp; run 0 20 0 a;");
        x.tick(2);
        due.is("HALTED", x.machine(0, 7), 1);
        due.is("the word is as ahead", x.word(0, 0), 1);
    }

    private static void stoppAndRunp() {
        MeetingMachines x = Due.of("a: ldc 61; runp; stopp; b: ldc 5; stopp; run 0 20 0 a;");
        x.poke(0, 29, 3);
        x.tick(3);
        due.is("I at W - 1", x.word(0, 19), 3);
        due.is("QUEUE", x.queue(0, 1, 0), 61);
        has("ldc 5; ldc 6; ldc 61; runp;", 4, 6, 5, 5);
        x.tick(1);
        due.is("who runs", x.machine(0, 4), 30);
        due.is("A", x.machine(0, 0), 5);
        x.tick(1);
        due.is("nobody", x.machine(0, 5), -1);
        due.yes("stuck()", x.stuck());
    }

    private static void haltedTickIsUndone() {
        MeetingMachines x = Due.of("a: halt; b: adc 1; j b; run 0 20 0 a; run 1 20 1 b;");
        x.tick(3);
        due.is("HALTED", x.machine(0, 7), 1);
        due.is("CLOCK stays", x.machine(0, 6), 0);
        due.is("nobody is TAKEN", x.machine(0, 4), -1);
        due.is("QUEUE", x.queue(0, 0, 0), 40);
        due.is("the other goes on", x.machine(1, 6), 3);
        due.is("TICKS", x.count(4), 3);
        due.no("start", x.start(0, 30, 0, 0));
        due.yes("poke", x.poke(0, 30, 5));
        due.is("word", x.word(0, 30), 5);
        // a LOW one is not INTERRUPTED by a FRONT that can't be TAKEN
        x = Due.of("b: adc 1; j b; run 0 20 1 b;");
        x.tick(2);
        x.start(0, 30, 0, 0);
        x.start(0, 40, 0, 0);
        x.poke(0, 28, 7);
        x.poke(0, 29, 2);
        x.tick(1);
        due.is("HALTED", x.machine(0, 7), 1);
        due.is("W", x.machine(0, 4), 20);
        due.is("INTERRUPTED", x.machine(0, 9), -1);
        due.is("FRONT", x.queue(0, 0, 0), 60);
        due.is("did", x.machine(0, 8), 2);
        due.is("CLOCK", x.machine(0, 6), 2);
        // a FRONT that is no PROCESS WORD: only TAKING it HALTS
        x = Due.of("a: stopp; run 0 20 0 a; run 0 30 0 a;");
        x.poke(0, 18, 192);
        x.tick(1);
        due.is("FRONT is 192", x.machine(0, 7), 0);
        due.is("not of the QUEUE", x.queue(0, 0, -1), 0);
        due.no("but there is a FRONT", x.stuck());
        x.tick(1);
        due.is("HALTED", x.machine(0, 7), 1);
        due.is("CLOCK", x.machine(0, 6), 1);
        // no TIMERS end on a HALTED machine
        x = Due.of("a: ldc 30; tin; b: ldc 0; halt; run 0 20 0 a; run 0 30 1 b;");
        x.tick(50);
        due.is("in TIMERS", x.machine(0, 10), 1);
        due.is("I of halt", x.machine(0, 3), 3);
        due.is("did", x.machine(0, 8), 1);
    }
}
