/** Each sentence on MEMORY, QUEUES, TICKS, TIMERS and HALTED that names a boundary. */
public final class TicksEdgesTest {
    private static final Due due = new Due();
    private static final int FAR = Integer.MAX_VALUE;
    private static final int LOW_FAR = Integer.MIN_VALUE;

    public static void main(String[] args) {
        memoryAtFirst();
        numbersWrap();
        afterWraps();
        queueWithoutAny();
        queueOfOne();
        behindBack();
        onesOwnWordBehind();
        frontIsAProcessWord();
        priorityOfTheQueue();
        takenWithNothing();
        queueEndsByItsWord();
        onlyLowIsInterrupted();
        interruptedGoesOnWhole();
        interruptedAheadOfLow();
        instructionsThatAreNone();
        clockOfWhoIdles();
        machineZeroFirst();
        timersLeaveWhenAfter();
        timersLeaveHighFirst();
        timersLeaveAsTheyStand();
        timersStandByPriorityAndTime();
        timersWrap();
        twelveTimers();
        haltedLeavesTheTickUndone();
        haltedDoesNothingMore();
        haltedByInterruption();
        due.end();
    }

    private static MeetingMachines after(int ticks, String text) {
        MeetingMachines x = Due.of(text);
        x.tick(ticks);
        return x;
    }

    private static void halted(String what, MeetingMachines x, boolean isHalted) {
        due.is(what + " HALTED", x.machine(0, 7), isHalted ? 1 : 0);
    }

    /** "a MEMORY of 96 words (.. -1 where nothing is told), a CLOCK (0 at first)". */
    private static void memoryAtFirst() {
        MeetingMachines x = Due.of("word 0 0 1; word 0 95 2; word 1 0 3; word 1 95 4;");
        for (int m = 0; m < 2; m++) {
            due.is("place 0", x.word(m, 0), 1 + 2 * m);
            due.is("place 95", x.word(m, 95), 2 + 2 * m);
            for (int place = 1; place < 95; place++) {
                due.is("nothing told", x.word(m, place), -1);
            }
            int machine = m;
            due.lacks("place 96", () -> x.word(machine, 96));
            due.is("CLOCK", x.machine(m, 6), 0);
        }
    }

    private static void makes(String code, int a, int b, int due3) {
        MeetingMachines x = Due.of("a: ldl 1; ldl 2; " + code + "; stl 3; stopp; run 0 20 0 a;");
        x.poke(0, 21, a);
        x.poke(0, 22, b);
        x.tick(4);
        due.is(a + " " + b + " " + code, x.word(0, 23), due3);
    }

    /** "(32 bits that wrap, as all numbers here ..)". */
    private static void numbersWrap() {
        makes("add", FAR, 1, LOW_FAR);
        makes("add", LOW_FAR, -1, FAR);
        makes("sub", LOW_FAR, 1, FAR);
        makes("sub", FAR, -1, LOW_FAR);
        makes("sub", 0, LOW_FAR, LOW_FAR);
        makes("mul", 65536, 65536, 0);
        makes("mul", LOW_FAR, -1, LOW_FAR);
        makes("mul", FAR, 2, -2);
        makes("adc 1", 0, FAR, LOW_FAR);
        makes("adc -1", 0, LOW_FAR, FAR);
        makes("gt", FAR, LOW_FAR, 1);
        makes("gt", LOW_FAR, FAR, 0);
        makes("gt", LOW_FAR, LOW_FAR, 0);
        makes("gt", 0, LOW_FAR, 1);
        MeetingMachines x = Due.of("a: ldc 50; endp; run 0 20 0 a;");
        x.poke(0, 51, LOW_FAR);
        x.tick(2);
        due.is("1 less by endp", x.word(0, 51), FAR);
        halted("A + 1 of endp wraps:", halts("ldl 1; endp;", FAR, 2), true);
        halted("A - 1 of startp wraps:", halts("ldl 1; startp;", LOW_FAR, 2), true);
        halted("C of out wraps:", halts("ldl 1; ldc 60; ldc 8; out;", FAR, 4), true);
        halted("C of in wraps:", halts("ldl 1; ldc 60; ldc 8; in;", FAR - 7, 4), true);
    }

    private static MeetingMachines halts(String code, int word, int ticks) {
        MeetingMachines x = Due.of("a: " + code + " run 0 20 0 a;");
        x.poke(0, 21, word);
        x.tick(ticks - 1);
        halted(code + " not yet", x, false);
        x.tick(1);
        return x;
    }

    /** "t is AFTER u: t - u (it wraps) is above 0": by CLOCK 1 seen from tin. */
    private static void afterWraps() {
        int[] waits = {1, 2, FAR, LOW_FAR, LOW_FAR + 1};
        int[] goesOn = {0, -1, LOW_FAR + 2, LOW_FAR + 3};
        for (int time : waits) {
            MeetingMachines x = Due.of("a: ldl 1; tin; stopp; run 0 20 0 a;");
            x.poke(0, 21, time);
            x.tick(2);
            due.is("1 is not AFTER " + time, x.machine(0, 4), -1);
        }
        for (int time : goesOn) {
            MeetingMachines x = Due.of("a: ldl 1; tin; stopp; run 0 20 0 a;");
            x.poke(0, 21, time);
            x.tick(2);
            due.is("1 is AFTER " + time, x.machine(0, 4), 20);
            due.is("not in TIMERS", x.machine(0, 10), 0);
        }
    }

    /** "FRONT and BACK, each NONE without any." */
    private static void queueWithoutAny() {
        MeetingMachines x = after(3, "halt;");
        for (int m = 0; m < 2; m++) {
            for (int priority = 0; priority < 2; priority++) {
                due.is("none", x.queue(m, priority, -1), 0);
                due.is("no first", x.queue(m, priority, 0), -2);
            }
        }
        due.yes("all is STUCK", x.stuck());
    }

    /** "FRONT is NONE if it is BACK, too": what stands at its W - 2 isn't looked at. */
    private static void queueOfOne() {
        MeetingMachines x = Due.of("a: stopp; word 0 18 60; run 0 20 0 a;");
        due.is("one", x.queue(0, 0, -1), 1);
        x.tick(1);
        due.is("none", x.queue(0, 0, -1), 0);
        due.yes("all is STUCK", x.stuck());
        due.is("the word stays", x.word(0, 18), 60);
    }

    /** "else p comes to what is W - 2 of BACK, and is BACK", not of FRONT. */
    private static void behindBack() {
        MeetingMachines x = Due.of("a: stopp; run 0 20 0 a; run 0 30 0 a; run 0 40 0 a;");
        due.is("behind the first", x.word(0, 18), 60);
        due.is("behind the second", x.word(0, 28), 80);
        due.is("behind the third", x.word(0, 38), -1);
        due.is("nothing comes to W - 3", x.word(0, 17), -1);
    }

    /** One that is SCHEDULED twice is behind itself, and is BACK: once TAKEN, the QUEUE has none. */
    private static void onesOwnWordBehind() {
        MeetingMachines x = Due.of("a: clock; b: stopp; run 0 20 1 a; run 0 20 1 b;");
        due.is("its own word behind it", x.word(0, 18), 41);
        due.is("till BACK has come", x.queue(0, 1, -1), 1);
        x.tick(1);
        due.is("I is the later one's", x.machine(0, 4), -1);
        due.is("none", x.queue(0, 1, -1), 0);
    }

    /** "it is FRONT, which must be a PROCESS WORD": W 5 to 95. */
    private static void frontIsAProcessWord() {
        for (int word : new int[] {9, 192, 0, -2, FAR, LOW_FAR}) {
            MeetingMachines x = frontIs(word);
            due.is(word + " isn't of the QUEUE", x.queue(0, 0, -1), 0);
            halted("not before it is TAKEN:", x, false);
            x.tick(1);
            halted("FRONT " + word, x, true);
            due.is("who runs", x.machine(0, 4), -1);
        }
        for (int word : new int[] {10, 11, 190, 191}) {
            MeetingMachines x = frontIs(word);
            due.is("FRONT", x.queue(0, 0, 0), word);
            x.poke(0, word / 2 - 1, 1);
            x.tick(1);
            halted("FRONT " + word, x, false);
            due.is("who runs", x.machine(0, 4), word / 2);
        }
        MeetingMachines x = frontIs(-1);
        due.yes("FRONT is NONE", x.stuck());
        x.tick(5);
        halted("FRONT is NONE:", x, false);
    }

    /** The first of two is TAKEN and has gone OFF; a word stands where the second was told. */
    private static MeetingMachines frontIs(int word) {
        MeetingMachines x = Due.of("a: stopp; b: ldpri; stopp; run 0 20 0 a; run 0 30 0 a;");
        x.poke(0, 18, word);
        x.tick(1);
        return x;
    }

    /** "it runs with the PRIORITY of that QUEUE", whatever its PROCESS WORD says. */
    private static void priorityOfTheQueue() {
        MeetingMachines x = frontIs(61);
        x.poke(0, 29, 1);
        x.tick(1);
        due.is("HIGH", x.machine(0, 5), 0);
        due.is("by ldpri", x.machine(0, 0), 0);
        x = Due.of("a: stopp; b: ldpri; stopp; run 0 20 1 a; run 0 30 1 b;");
        x.poke(0, 18, 60);
        x.tick(2);
        due.is("LOW", x.machine(0, 5), 1);
        due.is("by ldpri", x.machine(0, 0), 1);
    }

    /** "A, B, C are 0" of who is TAKEN, "I is what stands at W - 1". */
    private static void takenWithNothing() {
        MeetingMachines x = Due.of("a: ldc 1; ldc 2; ldc 3; stopp; b: rev; c: rev; run 0 20 0 a; run 0 30 0 b;");
        x.poke(0, 29, 5);
        x.tick(5);
        due.is("W", x.machine(0, 4), 30);
        due.is("I", x.machine(0, 3), 6);
        due.is("did", x.machine(0, 8), 1);
        for (int what = 0; what < 3; what++) {
            due.is("A, B, C", x.machine(0, what), 0);
        }
    }

    /** A word of -1 behind the first ends the QUEUE, though BACK hasn't come; the next to come is FRONT. */
    private static void queueEndsByItsWord() {
        MeetingMachines x = Due.of("a: stopp; run 0 20 1 a; run 0 30 1 a;");
        x.poke(0, 18, -1);
        due.is("one", x.queue(0, 1, -1), 1);
        x.tick(1);
        due.yes("none", x.stuck());
        x.start(0, 40, 1, 0);
        due.is("FRONT", x.queue(0, 1, 0), 81);
        due.is("alone", x.queue(0, 1, -1), 1);
        due.is("not behind the old BACK", x.word(0, 28), -1);
    }

    /** "if a LOW one runs and there is a FRONT of HIGH, it is INTERRUPTED": a HIGH one isn't, nor by a LOW one. */
    private static void onlyLowIsInterrupted() {
        int[][] rows = {{1, 0, 41, 30}, {0, 0, -1, 20}, {1, 1, -1, 20}, {0, 1, -1, 20}};
        for (int[] row : rows) {
            MeetingMachines x = Due.of("a: adc 1; adc 1; adc 1;");
            x.start(0, 20, row[0], 0);
            x.tick(1);
            x.start(0, 30, row[1], 0);
            x.tick(1);
            due.is("INTERRUPTED", x.machine(0, 9), row[2]);
            due.is("who runs", x.machine(0, 4), row[3]);
            due.is("A", x.machine(0, 0), row[3] == 20 ? 2 : 1);
        }
    }

    /** "it is INTERRUPTED (with W, I, A, B, C)"; what it did "since it was TAKEN" goes on, too. */
    private static void interruptedGoesOnWhole() {
        MeetingMachines x = Due.of("slice 5; a: ldc 1; ldc 2; ldc 3; rev; j a; h: ldc 9; ldc 8; ldc 7; stopp; run 0 20 1 a;");
        x.tick(3);
        x.start(0, 30, 0, 5);
        x.tick(4);
        due.is("nobody runs", x.machine(0, 4), -1);
        due.is("INTERRUPTED", x.machine(0, 9), 41);
        due.is("I isn't told at W - 1", x.word(0, 19), 0);
        due.no("STUCK", x.stuck());
        x.tick(1);
        int[] expected = {2, 3, 1, 4, 20, 1, 8, 0, 4, -1, 0};
        for (int what = 0; what < expected.length; what++) {
            due.is("machine(0, " + what + ")", x.machine(0, what), expected[what]);
        }
        x.tick(1);
        due.is("OFF by its fifth", x.machine(0, 4), -1);
        due.is("SCHEDULED", x.queue(0, 1, 0), 41);
    }

    /** "if there is none, who is INTERRUPTED goes on; if nobody is, the first of LOW is TAKEN". */
    private static void interruptedAheadOfLow() {
        MeetingMachines x = Due.of("a: adc 1; adc 1; stopp; h: stopp; run 0 20 1 a; run 0 40 1 a;");
        x.tick(1);
        x.start(0, 30, 0, 3);
        x.start(0, 35, 0, 3);
        x.tick(1);
        due.is("INTERRUPTED", x.machine(0, 9), 41);
        x.tick(1);
        due.is("the next of HIGH is ahead", x.machine(0, 9), 41);
        x.tick(1);
        due.is("then who is INTERRUPTED", x.machine(0, 4), 20);
        x.tick(1);
        due.is("OFF", x.machine(0, 4), -1);
        x.tick(1);
        due.is("then the first of LOW", x.machine(0, 4), 40);
    }

    /** "HALTED: by .. an INSTRUCTION that there isn't". */
    private static void instructionsThatAreNone() {
        for (int i : new int[] {-1, 2, FAR, LOW_FAR}) {
            MeetingMachines x = Due.of("a: adc 1; adc 1; run 0 20 0 a;");
            x.poke(0, 19, i);
            x.tick(1);
            halted("I " + i, x, true);
            due.is("it isn't TAKEN", x.queue(0, 0, 0), 40);
        }
        MeetingMachines x = Due.of("a: adc 1; adc 1; run 0 20 0 a;");
        x.poke(0, 19, 1);
        x.tick(1);
        halted("the last one", x, false);
        due.is("I behind the last one", x.machine(0, 3), 2);
        x.tick(1);
        halted("behind the last one", x, true);
        x = Due.of("");
        x.tick(300);
        halted("a PROGRAM without LINES", x, false);
    }

    /** "Then CLOCK is 1 more", where nobody runs, too. */
    private static void clockOfWhoIdles() {
        MeetingMachines x = after(300, "");
        due.is("CLOCK", x.machine(0, 6), 300);
        due.is("CLOCK", x.machine(1, 6), 300);
        x = Due.of("a: clock; stl 1; clock; stl 2; stopp; run 1 20 0 a;");
        x.tick(4);
        due.is("the first TICK has CLOCK 0", x.word(1, 21), 0);
        due.is("the third has 2", x.word(1, 22), 2);
    }

    /** "A TICK: machine 0, then 1": so stand their MEETINGS of one TICK. */
    private static void machineZeroFirst() {
        MeetingMachines x = Due.of("s: ldlp 1; ldc 60; ldc 1; out; stopp; r: ldlp 1; ldc 60; ldc 1; in; stopp;"
                + "run 1 20 0 s; run 1 30 0 r; run 0 20 0 s; run 0 30 0 r;");
        due.is("two MEETINGS", x.tick(8), 2);
        due.is("first", x.meeting(0, 1), 0);
        due.is("then", x.meeting(1, 1), 1);
        due.is("in one TICK", x.meeting(0, 0), x.meeting(1, 0));
    }

    /** "those in its TIMERS for whom it is AFTER their time leave": not at it, the TICK behind it. */
    private static void timersLeaveWhenAfter() {
        MeetingMachines x = after(5, "a: ldc 5; tin; stopp; run 0 20 0 a;");
        due.is("CLOCK 5", x.machine(0, 10), 1);
        due.is("nobody is SCHEDULED", x.queue(0, 0, -1), 0);
        x.tick(1);
        due.is("CLOCK 6", x.machine(0, 10), 0);
        due.is("SCHEDULED", x.queue(0, 0, 0), 40);
        x = after(2, "a: ldc 1; tin; stopp; run 0 20 0 a;");
        due.is("in that TICK itself", x.machine(0, 10), 0);
        due.is("SCHEDULED", x.queue(0, 0, 0), 40);
        x = after(2, "a: ldc 2; tin; stopp; run 0 20 0 a;");
        due.is("not in that TICK", x.machine(0, 10), 1);
    }

    /** "leave it one by one, HIGH ones first": the later one's CLOCK stands where the first one's READY stood. */
    private static void timersLeaveHighFirst() {
        MeetingMachines x = after(41, "a: talt; ldc 40; ldc 1; enbt; taltwt; stopp; run 0 20 0 a; run 0 22 1 a;");
        due.is("both have left", x.machine(0, 10), 0);
        due.is("W - 3 of HIGH, W - 5 of LOW", x.word(0, 17), 41);
        due.is("W - 4 of LOW", x.word(0, 18), -6);
        due.is("W - 3 of LOW", x.word(0, 19), -4);
    }

    /** "then as they stand there": like times as they came. */
    private static void timersLeaveAsTheyStand() {
        MeetingMachines x = after(31, "a: ldc 30; tin; stopp; run 0 40 0 a; run 0 20 0 a; run 0 30 0 a;"
                + "run 0 70 1 a; run 0 50 1 a; run 0 60 1 a;");
        due.is("all have left", x.machine(0, 10), 0);
        int[] high = {80, 40, 60};
        int[] low = {141, 101, 121};
        for (int i = 0; i < 3; i++) {
            due.is("HIGH", x.queue(0, 0, i), high[i]);
            due.is("LOW", x.queue(0, 1, i), low[i]);
        }
    }

    /** "ahead of the first of its PRIORITY whose time is AFTER its own; behind all of it, if none is." */
    private static void timersStandByPriorityAndTime() {
        MeetingMachines x = Due.of("a: ldl 1; tin; stopp; word 0 21 90; word 0 31 80; word 0 41 90; word 0 51 80;"
                + "word 0 61 70; word 0 71 85; run 0 20 0 a; run 0 30 0 a; run 0 40 0 a; run 0 50 0 a; run 0 60 1 a;"
                + "run 0 70 1 a;");
        x.tick(12);
        int[] processes = {60, 100, 40, 80, 121, 141};
        int[] times = {80, 80, 90, 90, 70, 85};
        due.is("how many", x.timer(0, -1, 0), 6);
        for (int i = 0; i < 6; i++) {
            due.is("timer(0, " + i + ", 0)", x.timer(0, i, 0), processes[i]);
            due.is("timer(0, " + i + ", 1)", x.timer(0, i, 1), times[i]);
        }
    }

    /** Times stand in TIMERS by what is AFTER what, too: the lowest number is 1 AFTER the highest. */
    private static void timersWrap() {
        MeetingMachines x = Due.of("a: ldl 1; tin; stopp; run 0 20 0 a; run 0 30 0 a; run 0 40 0 a;");
        x.poke(0, 21, LOW_FAR + 1);
        x.poke(0, 31, FAR);
        x.poke(0, 41, 50);
        x.tick(6);
        due.is("three", x.timer(0, -1, 0), 3);
        due.is("first", x.timer(0, 0, 1), 50);
        due.is("second", x.timer(0, 1, 1), FAR);
        due.is("third", x.timer(0, 2, 1), LOW_FAR + 1);
    }

    /** "TIMERS, 12 at most of a machine": HIGH and LOW ones together, each machine's its own; by tin, by taltwt. */
    private static void twelveTimers() {
        for (int by = 0; by < 2; by++) {
            MeetingMachines x = twelveInTimers();
            x.start(0, 93, 0, by == 0 ? 0 : 3);
            int ticks = by == 0 ? 2 : 5;
            x.tick(ticks - 1);
            halted("the thirteenth, not yet", x, false);
            x.tick(1);
            halted("the thirteenth", x, true);
            due.is("still twelve", x.machine(0, 10), 12);
            due.is("who runs", x.machine(0, 4), 93);
            due.is("I", x.machine(0, 3), by == 0 ? 1 : 7);
            due.is("the word at W", x.word(0, 93), -1);
            due.is("the word at W - 3", x.word(0, 90), by == 0 ? -1 : -2);
            due.is("CLOCK stays", x.machine(0, 6), 24 + ticks - 1);
        }
    }

    private static MeetingMachines twelveInTimers() {
        StringBuilder text = new StringBuilder("a: ldc 500; tin; stopp; b: talt; ldc 500; ldc 1; enbt; taltwt; stopp;");
        for (int k = 0; k < 11; k++) {
            text.append("run 0 ").append(5 + 7 * k).append(" ").append(k % 2).append(" a;");
        }
        MeetingMachines x = after(22, text.toString());
        due.is("eleven", x.machine(0, 10), 11);
        x.start(0, 85, 1, 0);
        x.start(1, 85, 1, 0);
        x.tick(2);
        halted("twelve:", x, false);
        due.is("twelve", x.machine(0, 10), 12);
        due.is("of the other machine", x.machine(1, 10), 1);
        return x;
    }

    /** "Its TICK is undone then (QUEUES, MEMORY, who runs are as ahead of it; CLOCK stays)". */
    private static void haltedLeavesTheTickUndone() {
        // endp would write the word at A + 1, startp the one at A - 1, out the one at its channel
        MeetingMachines x = after(2, "a: ldc 4; endp; word 0 5 1; run 0 20 0 a;");
        halted("endp", x, true);
        due.is("the word at A + 1", x.word(0, 5), 1);
        due.is("I", x.machine(0, 3), 1);
        due.is("A", x.machine(0, 0), 4);
        due.is("did", x.machine(0, 8), 1);
        due.is("CLOCK", x.machine(0, 6), 1);
        x = after(3, "a: ldc 33; ldc 96; startp; run 0 20 0 a;");
        halted("startp", x, true);
        due.is("the word at A - 1", x.word(0, 95), -1);
        due.is("QUEUE", x.queue(0, 0, -1), 0);
        due.is("B", x.machine(0, 1), 33);
        x = after(4, "a: ldc 7; ldc 60; ldc 9; out; run 0 20 0 a;");
        halted("out", x, true);
        due.is("the channel", x.word(0, 60), -1);
        due.is("A", x.machine(0, 0), 9);
        due.is("B", x.machine(0, 1), 60);
        due.is("C", x.machine(0, 2), 7);
        x = after(2, "a: ldc 5; ajw 76; run 0 20 0 a;");
        halted("ajw", x, true);
        due.is("W", x.machine(0, 4), 20);
        // who was TAKEN in that TICK is not TAKEN: the QUEUE is as ahead of it
        x = Due.of("b: stopp; a: halt; run 0 20 1 b; run 0 30 1 a; run 0 40 1 b;");
        x.tick(2);
        halted("TAKEN", x, true);
        due.is("QUEUE", x.queue(0, 1, -1), 2);
        due.is("FRONT", x.queue(0, 1, 0), 61);
        due.is("who runs", x.machine(0, 4), -1);
        due.is("did", x.machine(0, 8), 0);
        due.is("CLOCK", x.machine(0, 6), 1);
    }

    /** "the machine does nothing more": CLOCK, TIMERS, QUEUES stay; the other one goes on. */
    private static void haltedDoesNothingMore() {
        MeetingMachines x = Due.of("t: ldc 9; tin; stopp; h: ldc 1; halt; run 0 20 0 t; run 0 30 1 h; run 0 40 1 t;"
                + "run 1 20 0 t;");
        x.tick(3);
        halted("not yet", x, false);
        x.tick(1);
        halted("now", x, true);
        x.tick(40);
        due.is("CLOCK", x.machine(0, 6), 3);
        due.is("TIMERS", x.machine(0, 10), 1);
        due.is("QUEUE", x.queue(0, 1, -1), 1);
        due.is("who runs", x.machine(0, 4), 30);
        due.is("TICKS go by", x.count(4), 44);
        due.is("the other one's CLOCK", x.machine(1, 6), 44);
        due.is("the other one's TIMERS", x.machine(1, 10), 0);
        due.is("the other one", x.machine(1, 7), 0);
        due.yes("STUCK", x.stuck());
        due.yes("poke", x.poke(0, 50, 5));
        due.no("start", x.start(0, 50, 0, 0));
        due.is("undo", x.undo(), 3);
        due.is("undo", x.undo(), 2);
        due.is("undo", x.undo(), 1);
        halted("undone", x, false);
        due.yes("start", x.start(0, 50, 0, 0));
    }

    /** One that would be INTERRUPTED by a process that HALTS at once isn't. */
    private static void haltedByInterruption() {
        MeetingMachines x = Due.of("l: ldc 5; ldc 6; ldc 7; h: halt; run 0 20 1 l;");
        x.tick(2);
        x.start(0, 30, 0, 3);
        x.tick(1);
        halted("by the HIGH one", x, true);
        due.is("INTERRUPTED", x.machine(0, 9), -1);
        due.is("who runs", x.machine(0, 4), 20);
        due.is("A", x.machine(0, 0), 6);
        due.is("B", x.machine(0, 1), 5);
        due.is("did", x.machine(0, 8), 2);
        due.is("FRONT", x.queue(0, 0, 0), 60);
        // who is INTERRUPTED already stays so
        x = Due.of("l: adc 1; adc 1; h: adc 1; halt; run 0 20 1 l;");
        x.tick(1);
        x.start(0, 30, 0, 2);
        x.tick(2);
        halted("by the HIGH one", x, true);
        due.is("INTERRUPTED", x.machine(0, 9), 41);
        due.is("who runs", x.machine(0, 4), 30);
    }
}
