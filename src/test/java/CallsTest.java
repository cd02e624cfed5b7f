/** Promises 9 to 27: the calls by hand, of what there is, of what will be, of what is kept. */
public final class CallsTest {
    private static final Due due = new Due();
    private static final int FAR = Integer.MAX_VALUE;
    private static final int LOW_FAR = Integer.MIN_VALUE;

    public static void main(String[] args) {
        promise9Slice();
        promise10Poke();
        promise11Start();
        promise12Tick();
        promise13Undo();
        undoneWhole();
        promise14Machine();
        promise15Word();
        promise16Queue();
        promise17Timer();
        promise18Link();
        promise19Meeting();
        promise20Stuck();
        promise21Ahead();
        promise22Share();
        promise23Until();
        promise24Slices();
        promise25And26KeepAndBack();
        promise27Count();
        due.end();
    }

    private static final String LOOP = "a: adc 1; j a;";

    private static void promise9Slice() {
        MeetingMachines x = Due.of("slice 4;");
        for (int n : new int[] {0, -1, 61, FAR, LOW_FAR}) {
            due.is("slice(" + n + ")", x.slice(n), -1);
        }
        due.is("nothing to undo", x.count(6), 0);
        due.is("slice(60)", x.slice(60), 4);
        due.is("slice(1)", x.slice(1), 60);
        due.is("slice(1)", x.slice(1), 1);
        due.is("ACTS", x.count(6), 3);
        x = Due.of(LOOP + "run 0 20 1 a;");
        x.slice(2);
        x.tick(2);
        due.is("it is OFF", x.machine(0, 4), -1);
    }

    private static void promise10Poke() {
        MeetingMachines x = new MeetingMachines();
        due.no("poke(-1, 0, 5)", x.poke(-1, 0, 5));
        due.no("poke(2, 0, 5)", x.poke(2, 0, 5));
        due.no("poke(0, -1, 5)", x.poke(0, -1, 5));
        due.no("poke(0, 96, 5)", x.poke(0, 96, 5));
        due.is("ACTS", x.count(6), 0);
        due.yes("poke(0, 0, FAR)", x.poke(0, 0, FAR));
        due.yes("poke(1, 95, LOW_FAR)", x.poke(1, 95, LOW_FAR));
        due.is("word(0, 0)", x.word(0, 0), FAR);
        due.is("word(1, 95)", x.word(1, 95), LOW_FAR);
        due.is("word(1, 0)", x.word(1, 0), -1);
        due.is("ACTS", x.count(6), 2);
    }

    private static void promise11Start() {
        MeetingMachines x = Due.of(LOOP);
        due.no("machine -1", x.start(-1, 20, 0, 0));
        due.no("machine 2", x.start(2, 20, 0, 0));
        due.no("W 4", x.start(0, 4, 0, 0));
        due.no("W 96", x.start(0, 96, 0, 0));
        due.no("PRIORITY -1", x.start(0, 20, -1, 0));
        due.no("PRIORITY 2", x.start(0, 20, 2, 0));
        due.no("I -1", x.start(0, 20, 0, -1));
        due.no("I 2", x.start(0, 20, 0, 2));
        due.is("ACTS", x.count(6), 0);
        due.yes("W 5", x.start(0, 5, 1, 1));
        due.yes("W 95", x.start(0, 95, 1, 0));
        due.is("I of W 5", x.word(0, 4), 1);
        due.is("I of W 95", x.word(0, 94), 0);
        due.is("behind W 5", x.word(0, 3), 191);
        due.is("behind W 95", x.word(0, 93), -1);
        due.is("QUEUE", x.queue(0, 1, 1), 191);
        due.is("the other PRIORITY", x.queue(0, 0, -1), 0);
        due.is("the other machine", x.queue(1, 1, -1), 0);
        x = Due.of("a: halt; run 1 20 0 a;");
        x.tick(1);
        due.no("HALTED", x.start(1, 30, 0, 0));
        due.yes("the other one", x.start(0, 30, 0, 0));
    }

    private static void promise12Tick() {
        MeetingMachines x = Due.of(LOOP + "run 0 20 1 a;");
        for (int n : new int[] {0, -1, 301, FAR, LOW_FAR}) {
            due.is("tick(" + n + ")", x.tick(n), -1);
        }
        due.is("TICKS", x.count(4), 0);
        due.is("ACTS", x.count(6), 0);
        due.is("tick(300)", x.tick(300), 0);
        due.is("CLOCK", x.machine(0, 6), 300);
        due.is("of the idle one", x.machine(1, 6), 300);
        due.is("ACTS", x.count(6), 1);
        interrupts();
    }

    private static void interrupts() {
        MeetingMachines x = Due.of("l: ldc 7; ldc 8; ldc 9; adc 1; j l; h: ldc 1; stopp; run 0 20 1 l;");
        x.tick(3);
        x.start(0, 30, 0, 5);
        x.start(0, 40, 0, 5);
        x.tick(1);
        due.is("INTERRUPTED", x.machine(0, 9), 41);
        due.is("W", x.machine(0, 4), 30);
        due.is("A", x.machine(0, 0), 1);
        due.is("B", x.machine(0, 1), 0);
        x.tick(3);
        due.is("INTERRUPTED still", x.machine(0, 9), 41);
        due.is("nobody", x.machine(0, 4), -1);
        due.no("stuck()", x.stuck());
        x.start(0, 50, 1, 0);
        x.tick(1);
        due.is("ahead of the QUEUE LOW", x.machine(0, 4), 20);
        due.is("A", x.machine(0, 0), 10);
        due.is("B", x.machine(0, 1), 8);
        due.is("C", x.machine(0, 2), 7);
        due.is("I", x.machine(0, 3), 4);
        due.is("did", x.machine(0, 8), 4);
        due.is("INTERRUPTED no more", x.machine(0, 9), -1);
        x.start(0, 30, 0, 5);
        x.tick(1);
        x.start(0, 40, 0, 5);
        x.tick(1);
        due.is("a HIGH one is not INTERRUPTED", x.queue(0, 0, 0), 80);
    }

    private static void promise13Undo() {
        MeetingMachines x = Due.of(LOOP + "run 0 20 1 a;");
        due.is("undo()", x.undo(), -1);
        x.slice(3);
        x.poke(0, 50, 1);
        x.start(1, 20, 1, 0);
        x.tick(1);
        x.tick(0);
        x.poke(0, 96, 1);
        due.is("ACTS", x.count(6), 4);
        due.is("undo() of tick", x.undo(), 3);
        due.is("TICKS", x.count(4), 0);
        due.is("W", x.machine(0, 4), -1);
        due.is("undo() of start", x.undo(), 2);
        due.is("QUEUE", x.queue(1, 1, -1), 0);
        due.is("I at W - 1", x.word(1, 19), -1);
        due.is("undo() of poke", x.undo(), 1);
        due.is("word", x.word(0, 50), -1);
        due.is("undo() of slice", x.undo(), 0);
        due.is("SLICE", x.count(3), 8);
        due.is("undo()", x.undo(), -1);
        for (int k = 1; k <= 11; k++) {
            x.poke(0, 50, k);
            due.is("ACTS", x.count(6), Math.min(k, 8));
        }
        for (int k = 1; k <= 8; k++) {
            due.is("undo()", x.undo(), 8 - k);
            due.is("word", x.word(0, 50), 11 - k);
        }
        due.is("undo()", x.undo(), -1);
        due.is("word", x.word(0, 50), 3);
        x = Due.of("a: ldc 90; tin; b: ldc 70; ldc 2; ldc 1; in; c: alt; ldc 3; ldc 1; enbc; altwt;"
                + "run 0 20 0 a; run 0 30 0 b; run 0 40 0 c;");
        x.tick(20);
        due.is("undo()", x.undo(), 0);
        due.is("TIMERS", x.machine(0, 10), 0);
        due.is("who receives", x.link(0, 0, 2), -1);
        due.is("ALT", x.link(0, 1, 6), -1);
        due.is("QUEUE", x.queue(0, 0, -1), 3);
    }

    /** All that a machine has is laid back: another way is gone in between. */
    private static void undoneWhole() {
        MeetingMachines x = Due.of("join 1 0 0 0; join 0 0 1 0; s: ldc 70; ldc 0; ldc 2; out; stopp; word 1 70 5;"
                + "word 1 71 6; r: ldc 80; ldc 2; ldc 2; in; stopp; c: ldc 2; ldc 1; enbc; stopp; run 1 30 1 s;");
        x.tick(4);
        due.is("FULL", x.link(0, 0, 4), 1);
        x.start(0, 40, 1, 5);
        due.is("the MEETING", x.tick(9), 1);
        due.is("told", x.meeting(0, 5), 2);
        x.poke(1, 70, 44);
        x.start(1, 50, 0, 0);
        x.tick(5);
        due.is("another word", x.link(0, 0, 5), 44);
        due.is("undo()", x.undo(), 5);
        x.undo();
        x.undo();
        due.is("undo()", x.undo(), 2);
        due.is("the word", x.link(0, 0, 5), 5);
        due.is("left to send", x.link(1, 0, 1), 1);
        due.is("who sends", x.link(1, 0, 0), 61);
        due.is("the MEETING again", x.tick(9), 1);
        due.is("told", x.meeting(0, 5), 2);
        due.is("words", x.word(0, 80), 5);
        due.is("words", x.word(0, 81), 6);
    }

    private static void promise14Machine() {
        MeetingMachines x = Due.of("a: ldc 3; ldc 4; ldc 5; j a; run 1 33 1 a;");
        for (int what = 0; what <= 5; what++) {
            due.is("nobody: machine(1, " + what + ")", x.machine(1, what), -1);
        }
        due.is("machine(1, 8)", x.machine(1, 8), 0);
        x.tick(3);
        int[] expected = {5, 4, 3, 3, 33, 1, 3, 0, 3, -1, 0, -1};
        for (int what = 0; what < expected.length; what++) {
            due.is("machine(1, " + what + ")", x.machine(1, what), expected[what]);
        }
        due.is("machine(1, -1)", x.machine(1, -1), -1);
        due.is("machine(1, FAR)", x.machine(1, FAR), -1);
        due.is("machine(2, 6)", x.machine(2, 6), -1);
        due.is("machine(-1, 6)", x.machine(-1, 6), -1);
    }

    private static void promise15Word() {
        MeetingMachines x = Due.of("word 0 0 3; word 1 95 4;");
        due.is("word(0, 0)", x.word(0, 0), 3);
        due.is("word(1, 95)", x.word(1, 95), 4);
        due.lacks("word(-1, 0)", () -> x.word(-1, 0));
        due.lacks("word(2, 0)", () -> x.word(2, 0));
        due.lacks("word(0, -1)", () -> x.word(0, -1));
        due.lacks("word(0, 96)", () -> x.word(0, 96));
        due.lacks("word(0, FAR)", () -> x.word(0, FAR));
    }

    private static void promise16Queue() {
        MeetingMachines x = Due.of(LOOP + "run 0 20 1 a; run 0 30 1 a; run 0 40 1 a;");
        due.is("how many", x.queue(0, 1, -1), 3);
        due.is("first", x.queue(0, 1, 0), 41);
        due.is("last", x.queue(0, 1, 2), 81);
        due.is("too many", x.queue(0, 1, 3), -2);
        due.is("i -2", x.queue(0, 1, -2), -2);
        due.is("i FAR", x.queue(0, 1, FAR), -2);
        due.is("PRIORITY 2", x.queue(0, 2, 0), -1);
        due.is("PRIORITY -1", x.queue(0, -1, -2), -1);
        due.is("machine 2", x.queue(2, 0, -2), -1);
        x.poke(0, 18, 9);
        due.is("no PROCESS WORD, nor behind", x.queue(0, 1, -1), 1);
        x.poke(0, 18, 192);
        due.is("no PROCESS WORD", x.queue(0, 1, 1), -2);
        x.poke(0, 18, 10);
        due.is("W 5, then nothing", x.queue(0, 1, -1), 2);
        x.poke(0, 18, 41);
        due.is("round and round", x.queue(0, 1, -1), 48);
        due.is("the 48th", x.queue(0, 1, 47), 41);
        due.is("the 49th", x.queue(0, 1, 48), -2);
        x.poke(0, 18, -1);
        x.tick(1);
        due.is("FRONT is NONE by its word", x.queue(0, 1, -1), 0);
        x.start(0, 60, 1, 0);
        due.is("FRONT again", x.queue(0, 1, 0), 121);
        due.is("alone", x.queue(0, 1, -1), 1);
        MeetingMachines y = Due.of(LOOP + "run 0 20 0 a; run 0 30 0 a;");
        y.poke(0, 18, 61);
        y.poke(0, 28, 60);
        y.tick(1);
        due.is("another PRIORITY's word", y.queue(0, 0, 0), 61);
        due.is("and what is behind", y.queue(0, 0, 1), 60);
    }

    private static void promise17Timer() {
        MeetingMachines x = Due.of("a: ldl 1; tin; word 1 21 50; word 1 31 60; run 1 20 1 a; run 1 30 0 a;");
        due.is("none", x.timer(1, -1, 0), 0);
        x.tick(4);
        due.is("how many", x.timer(1, -1, 0), 2);
        due.is("HIGH", x.timer(1, 0, 0), 60);
        due.is("its time", x.timer(1, 0, 1), 60);
        due.is("LOW", x.timer(1, 1, 0), 41);
        due.is("its time", x.timer(1, 1, 1), 50);
        due.is("timer(1, 2, 0)", x.timer(1, 2, 0), -1);
        due.is("timer(1, -1, 1)", x.timer(1, -1, 1), -1);
        due.is("timer(1, -2, 0)", x.timer(1, -2, 0), -1);
        due.is("timer(1, 0, 2)", x.timer(1, 0, 2), -1);
        due.is("timer(1, 0, -1)", x.timer(1, 0, -1), -1);
        due.is("timer(2, -1, 0)", x.timer(2, -1, 0), -1);
        due.is("timer(0, -1, 0)", x.timer(0, -1, 0), 0);
    }

    private static void promise18Link() {
        MeetingMachines x = Due.of("join 0 0 1 1; word 0 70 -8; s: ldc 70; ldc 0; ldc 4; out; r: ldc 70; ldc 3; ldc 2; in;"
                + "c: alt; ldc 2; ldc 1; enbc; run 0 20 1 s; run 1 30 1 c;");
        int[] none = {-1, 0, -1, 0, 0, 0, -1, -1};
        for (int what = 0; what < none.length; what++) {
            due.is("link(1, 1, " + what + ")", x.link(1, 1, what), none[what]);
        }
        x.tick(4);
        int[] sends = {41, 3, -1, 0, 0, 0, -1, -1};
        int[] full = {-1, 0, -1, 0, 1, -8, -1, -1};
        int[] alt = {-1, 0, -1, 0, 0, 0, 61, -1};
        for (int what = 0; what < none.length; what++) {
            due.is("link(0, 0, " + what + ")", x.link(0, 0, what), sends[what]);
            due.is("link(1, 1, " + what + ")", x.link(1, 1, what), full[what]);
            due.is("link(1, 0, " + what + ")", x.link(1, 0, what), alt[what]);
        }
        due.is("link(0, 0, -1)", x.link(0, 0, -1), -1);
        due.is("link(0, 2, 1)", x.link(0, 2, 1), -1);
        due.is("link(0, -1, 1)", x.link(0, -1, 1), -1);
        due.is("link(2, 0, 1)", x.link(2, 0, 1), -1);
        due.is("link(-1, 0, 1)", x.link(-1, 0, 1), -1);
    }

    private static void promise19Meeting() {
        MeetingMachines x = Due.of("s: ldlp 1; ldc 60; ldc 2; out; stopp; r: ldlp 1; ldc 60; ldc 2; in; stopp;"
                + "run 1 20 0 s; run 1 30 0 r; run 0 40 0 r; run 0 50 0 s;");
        due.is("MEETINGS", x.tick(20), 2);
        int[] first = {8, 0, 60, 100, 80, 2, -1};
        int[] second = {8, 1, 60, 40, 60, 2, -1};
        for (int what = 0; what < first.length; what++) {
            due.is("meeting(0, " + what + ")", x.meeting(0, what), first[what]);
            due.is("meeting(1, " + what + ")", x.meeting(1, what), second[what]);
        }
        due.is("meeting(2, 0)", x.meeting(2, 0), -1);
        due.is("meeting(-1, 0)", x.meeting(-1, 0), -1);
        due.is("meeting(0, -1)", x.meeting(0, -1), -1);
    }

    private static void promise20Stuck() {
        MeetingMachines x = Due.of("a: ldc 5; ldc 9; tin; stopp; h: halt; run 1 20 0 a;");
        due.no("FRONT of HIGH", x.stuck());
        x.tick(1);
        due.no("who runs", x.stuck());
        x.tick(2);
        due.no("in TIMERS", x.stuck());
        x.tick(8);
        due.yes("all is STUCK", x.stuck());
        x.start(0, 30, 1, 4);
        due.no("FRONT of LOW", x.stuck());
        x.tick(1);
        due.is("HALTED", x.machine(0, 7), 1);
        due.yes("a HALTED machine is not looked at", x.stuck());
    }

    private static void promise21Ahead() {
        MeetingMachines x = Due.of("s: ldlp 1; ldc 60; ldc 1; out; stopp; r: ldlp 1; ldc 60; ldc 1; in; stopp; h: ldc 1; halt;"
                + "run 0 20 0 s; run 0 30 0 r; run 1 40 0 h;");
        due.is("MEETINGS by 7", x.ahead(7, 0), 0);
        due.is("MEETINGS by 8", x.ahead(8, 0), 1);
        due.is("HALTED by 1", x.ahead(1, 1), 0);
        due.is("HALTED by 2", x.ahead(2, 1), 2);
        due.is("HALTED first", x.ahead(300, 3), 2);
        due.is("HALTED first, not by 1", x.ahead(1, 3), -2);
        due.is("STUCK first", x.ahead(300, 2), 10);
        due.is("STUCK first, by 10", x.ahead(10, 2), 10);
        due.is("STUCK first, not by 9", x.ahead(9, 2), -2);
        due.is("STUCK first, not by 0", x.ahead(0, 2), -2);
        due.is("ahead(-1, 0)", x.ahead(-1, 0), -1);
        due.is("ahead(301, 0)", x.ahead(301, 0), -1);
        due.is("ahead(5, -1)", x.ahead(5, -1), -1);
        due.is("ahead(5, 4)", x.ahead(5, 4), -1);
        due.is("nothing changed", x.count(4), 0);
        due.is("nothing changed", x.count(6), 0);
        due.is("nothing changed", x.queue(0, 0, -1), 2);
        due.is("nothing changed", x.machine(1, 7), 0);
        x.tick(10);
        due.is("MEETINGS there were are not counted", x.ahead(9, 0), 0);
        due.is("STUCK now", x.ahead(9, 2), 0);
        due.is("HALTED now", x.ahead(0, 3), 0);
        x.start(0, 50, 0, 11);
        due.is("both HALTED", x.ahead(1, 1), 3);
    }

    private static void promise22Share() {
        MeetingMachines x = Due.of("h: ldc 4; tin; stopp; l: adc 1; j l; e: ldc 1; halt;"
                + "run 0 20 0 h; run 0 30 1 l; run 1 20 0 e;");
        due.is("HIGH", x.share(0, 0, 10), 3);
        due.is("LOW", x.share(0, 1, 10), 7);
        due.is("none", x.share(0, 2, 10), 0);
        due.is("HIGH of the one that HALTS", x.share(1, 0, 10), 1);
        due.is("none of the one that HALTS", x.share(1, 2, 10), 9);
        due.is("share(0, 0, 1)", x.share(0, 0, 1), 1);
        due.is("share(0, 1, 300)", x.share(0, 1, 300), 297);
        due.is("share(0, 0, 0)", x.share(0, 0, 0), -1);
        due.is("share(0, 0, 301)", x.share(0, 0, 301), -1);
        due.is("share(0, -1, 5)", x.share(0, -1, 5), -1);
        due.is("share(0, 3, 5)", x.share(0, 3, 5), -1);
        due.is("share(2, 0, 5)", x.share(2, 0, 5), -1);
        due.is("nothing changed", x.count(4), 0);
    }

    private static void promise23Until() {
        MeetingMachines x = Due.of("a: ldl 1; adc 1; stl 1; j a; run 1 20 0 a;");
        due.is("now", x.until(1, 21, -1, 0), 0);
        due.is("0", x.until(1, 21, 0, 300), 3);
        due.is("5", x.until(1, 21, 5, 23), 23);
        due.is("5, not by 22", x.until(1, 21, 5, 22), -2);
        due.is("the other machine", x.until(0, 21, 0, 300), -2);
        due.is("until(1, 21, 0, 301)", x.until(1, 21, 0, 301), -1);
        due.is("until(1, 21, 0, -1)", x.until(1, 21, 0, -1), -1);
        due.is("until(1, 96, 0, 5)", x.until(1, 96, 0, 5), -1);
        due.is("until(1, -1, 0, 5)", x.until(1, -1, 0, 5), -1);
        due.is("until(2, 21, 0, 5)", x.until(2, 21, 0, 5), -1);
        due.is("nothing changed", x.word(1, 21), -1);
    }

    private static void promise24Slices() {
        // two LOW ones write their W in turn: who is last at place 60 hangs on SLICE
        MeetingMachines x = Due.of("a: ldlp 0; ldc 60; store; j a; run 0 20 1 a; run 0 30 1 a; slice 50;");
        due.is("by 0", x.slices(0, 60, 0), 1);
        due.is("by 3", x.slices(0, 60, 3), 1);
        due.is("by 7", x.slices(0, 60, 7), 2);
        // SLICE 1 to 4: j at 4 is OFF; from 5 on it goes on: W 20 writes at 7, too
        x.tick(3);
        due.is("by 4 more", x.slices(0, 60, 4), 2);
        due.is("SLICE stays", x.count(3), 50);
        due.is("nothing changed", x.word(0, 60), 20);
        // by turns of 1 to 16 INSTRUCTIONS a counter stands at unlike numbers
        x = Due.of("a: adc 1; j a; b: ldl 1; adc 1; stl 1; j b; run 0 20 1 a; run 0 30 1 b;");
        due.is("many", x.slices(0, 31, 200), counters(x));
        // a j as 15th INSTRUCTION: SLICE 16 alone goes on; a j as first: SLICE 1 alone is OFF
        String first = "run 0 20 1 a; run 0 30 1 b; b: ldlp 0; ldc 60; store; stopp; a: ";
        due.is("SLICE 16", Due.of(first + "adc 1;".repeat(14) + "j a;").slices(0, 60, 18), 2);
        due.is("SLICE 17 is none", Due.of(first + "adc 1;".repeat(15) + "j a;").slices(0, 60, 19), 1);
        due.is("SLICE 1", Due.of(first + "j c; c: adc 1; adc 1; adc 1; adc 1; stopp;").slices(0, 60, 4), 2);
        due.is("slices(0, 60, 201)", x.slices(0, 60, 201), -1);
        due.is("slices(0, 60, -1)", x.slices(0, 60, -1), -1);
        due.is("slices(0, 96, 5)", x.slices(0, 96, 5), -1);
        due.is("slices(0, -1, 5)", x.slices(0, -1, 5), -1);
        due.is("slices(2, 0, 5)", x.slices(2, 0, 5), -1);
    }

    /** The same by hand: each SLICE tried from what is kept. */
    private static int counters(MeetingMachines x) {
        java.util.Set<Integer> words = new java.util.TreeSet<>();
        x.keep(0);
        for (int s = 1; s <= 16; s++) {
            x.slice(s);
            x.tick(200);
            words.add(x.word(0, 31));
            x.back(0);
        }
        return words.size();
    }

    private static void promise25And26KeepAndBack() {
        MeetingMachines x = Due.of("s: ldlp 1; ldc 60; ldc 1; out; stopp; r: ldlp 1; ldc 60; ldc 1; in; stopp;"
                + "run 0 20 0 s; run 0 30 0 r;");
        due.no("keep(-1)", x.keep(-1));
        due.no("keep(2)", x.keep(2));
        due.no("back(-1)", x.back(-1));
        due.no("back(2)", x.back(2));
        due.no("back(0)", x.back(0));
        due.yes("keep(0)", x.keep(0));
        due.no("back(1)", x.back(1));
        x.tick(9);
        x.slice(33);
        x.poke(1, 7, 7);
        due.yes("keep(1)", x.keep(1));
        due.is("keep is no ACT", x.count(6), 3);
        due.yes("back(0)", x.back(0));
        due.is("nothing can be undone", x.undo(), -1);
        due.is("TICKS", x.count(4), 0);
        due.is("MEETINGS", x.count(5), 0);
        due.is("SLICE", x.count(3), 8);
        due.is("word", x.word(1, 7), -1);
        due.is("QUEUE", x.queue(0, 0, -1), 2);
        x.tick(30);
        due.yes("back(0) again", x.back(0));
        due.is("TICKS", x.count(4), 0);
        due.yes("back(1)", x.back(1));
        due.is("TICKS", x.count(4), 9);
        due.is("MEETINGS", x.count(5), 1);
        due.is("meeting(0, 0)", x.meeting(0, 0), 8);
        due.is("SLICE", x.count(3), 33);
        due.is("word", x.word(1, 7), 7);
        due.yes("keep(1) over it", x.keep(0) && x.poke(1, 7, 8) && x.keep(1) && x.back(0) && x.back(1));
        due.is("word", x.word(1, 7), 8);
        x.poke(1, 7, 9);
        due.is("undo() behind back()", x.undo(), 0);
    }

    private static void promise27Count() {
        MeetingMachines x = Due.of("slice 7; join 0 0 1 0; join 1 0 0 0; s: ldlp 1; t: ldc 60; ldc 1; out; stopp;"
                + "r: ldlp 1; ldc 60; ldc 1; in; stopp; run 0 20 0 s; run 0 30 0 r;");
        x.tick(9);
        x.poke(0, 0, 1);
        Due.tape(x, "abc");
        int[] expected = {10, 3, 2, 7, 9, 1, 2, 3, -1};
        for (int what = 0; what < expected.length; what++) {
            due.is("count(" + what + ")", x.count(what), expected[what]);
        }
        due.is("count(-1)", x.count(-1), -1);
        due.is("count(FAR)", x.count(FAR), -1);
    }
}
