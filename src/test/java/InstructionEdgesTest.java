/** Each sentence on INSTRUCTIONS without channels that names a boundary: words, jumps, SLICE, processes, times. */
public final class InstructionEdgesTest {
    private static final Due due = new Due();
    private static final int FAR = Integer.MAX_VALUE;
    private static final int LOW_FAR = Integer.MIN_VALUE;

    public static void main(String[] args) {
        placesOfLdlAndStl();
        placesOfLoadAndStore();
        ldlpHasNoBounds();
        boundsOfAjw();
        ownIsOfTheNewW();
        eqcOfEdges();
        cjAtNoughtAlone();
        sliceOfWhoIsLow();
        sliceCountsThisOne();
        sliceIsLookedAtByJAlone();
        sliceBehindEndp();
        startpBounds();
        startpOfItsPriority();
        endpBounds();
        endpOfTheLast();
        endpOfOthers();
        stoppTellsI();
        runpBounds();
        runpOfEitherPriority();
        altendAnywhere();
        tinAtItsTime();
        tinClears();
        popLeavesC();
        due.end();
    }

    private static MeetingMachines after(int ticks, String code) {
        MeetingMachines x = Due.of("a: " + code + " run 0 20 0 a;");
        x.tick(ticks);
        return x;
    }

    private static void halts(String code, int ticks) {
        due.is(code + " not yet HALTED", after(ticks - 1, code).machine(0, 7), 0);
        due.is(code + " HALTED", after(ticks, code).machine(0, 7), 1);
    }

    private static MeetingMachines fits(String code, int ticks) {
        MeetingMachines x = after(ticks, code);
        due.is(code + " HALTED", x.machine(0, 7), 0);
        return x;
    }

    private static void has(String what, MeetingMachines x, int a, int b, int c) {
        due.is(what + " A", x.machine(0, 0), a);
        due.is(what + " B", x.machine(0, 1), b);
        due.is(what + " C", x.machine(0, 2), c);
    }

    /** "ldl PUSH the word at W + n", "stl A comes to W + n": places 0 to 95. */
    private static void placesOfLdlAndStl() {
        fits("ldl -20;", 1);
        fits("ldl 75;", 1);
        halts("ldl -21;", 1);
        halts("ldl 76;", 1);
        halts("ldl 9999;", 1);
        halts("ldl -9999;", 1);
        due.is("place 0", fits("ldc 7; stl -20;", 2).word(0, 0), 7);
        due.is("place 95", fits("ldc 7; stl 75;", 2).word(0, 95), 7);
        halts("ldc 7; stl -21;", 2);
        halts("ldc 7; stl 76;", 2);
        MeetingMachines x = Due.of("a: ldl -20; ldl 75; word 0 0 3; word 0 95 4; run 0 20 0 a;");
        x.tick(2);
        has("both ends", x, 4, 3, 0);
    }

    /** "load A is the word at A", "store B comes to the place A": places 0 to 95. */
    private static void placesOfLoadAndStore() {
        MeetingMachines x = Due.of("a: ldc 0; load; ldc 95; load; word 0 0 3; word 0 95 4; run 0 20 0 a;");
        x.tick(4);
        has("both ends", x, 4, 3, 0);
        halts("ldc -1; load;", 2);
        halts("ldc 96; load;", 2);
        due.is("place 0", fits("ldc 7; ldc 0; store;", 3).word(0, 0), 7);
        due.is("place 95", fits("ldc 7; ldc 95; store;", 3).word(0, 95), 7);
        halts("ldc 7; ldc -1; store;", 3);
        halts("ldc 7; ldc 96; store;", 3);
        has("store: POP, POP", fits("ldc 5; ldc 6; ldc 50; store;", 4), 5, 5, 5);
    }

    /** "ldlp PUSH W + n": no place is looked at. */
    private static void ldlpHasNoBounds() {
        has("ldlp", fits("ldlp -21; ldlp 76; ldlp 9999;", 3), 10019, 96, -1);
    }

    /** "ajw W is W + n (5 to 95)". */
    private static void boundsOfAjw() {
        due.is("W 5", fits("ajw -15;", 1).machine(0, 4), 5);
        due.is("W 95", fits("ajw 75;", 1).machine(0, 4), 95);
        halts("ajw -16;", 1);
        halts("ajw 76;", 1);
        due.is("W stays", fits("ajw 0;", 1).machine(0, 4), 20);
        due.is("at its bounds it goes on", fits("ajw -15; ldl -5; ldl 90; ajw 90; ldl 0; ldl -95; alt; talt;", 8)
                .word(0, 92), -2);
    }

    /** "OWN its PROCESS WORD", "I comes to W - 1": those of W as it is now. */
    private static void ownIsOfTheNewW() {
        MeetingMachines x = Due.of("slice 1; a: ajw 10; j a; run 0 20 1 a;");
        x.tick(2);
        due.is("SCHEDULED", x.queue(0, 1, 0), 61);
        due.is("I at W - 1", x.word(0, 29), 0);
    }

    /** "eqc A is 1 if it is n, else 0". */
    private static void eqcOfEdges() {
        has("eqc", fits("ldc 3; ldc -9999; eqc -9999;", 3), 1, 3, 0);
        has("eqc", fits("ldc 3; ldc -9999; eqc 9999;", 3), 0, 3, 0);
        has("eqc 0", fits("eqc 0;", 1), 1, 0, 0);
    }

    /** "cj if A is 0, I is l; else POP": below 0 isn't 0. */
    private static void cjAtNoughtAlone() {
        int[][] rows = {{0, 6, 0, 2, 1}, {1, 4, 2, 1, 1}, {-1, 4, 2, 1, 1}, {FAR, 4, 2, 1, 1}, {LOW_FAR, 4, 2, 1, 1}};
        for (int[] row : rows) {
            MeetingMachines x = Due.of("a: ldc 1; ldc 2; ldl 1; cj b; halt; halt; b: halt; run 0 20 0 a;");
            x.poke(0, 21, row[0]);
            x.tick(4);
            due.is("I by cj at " + row[0], x.machine(0, 3), row[1]);
            has("cj at " + row[0], x, row[2], row[3], row[4]);
        }
    }

    /** "one that is LOW and did so many INSTRUCTIONS as SLICE or more": a HIGH one is never OFF by j. */
    private static void sliceOfWhoIsLow() {
        MeetingMachines x = Due.of("slice 1; a: j a; run 0 20 0 a; run 1 20 1 a;");
        x.tick(1);
        due.is("HIGH", x.machine(0, 4), 20);
        due.is("LOW", x.machine(1, 4), -1);
        due.is("its I", x.word(1, 19), 0);
        due.is("alone it is FRONT and BACK", x.queue(1, 1, -1), 1);
        x.tick(60);
        due.is("HIGH did", x.machine(0, 8), 61);
    }

    /** "(this one, too ..)": the j that makes it SLICE, and one that comes later. */
    private static void sliceCountsThisOne() {
        for (int slice = 1; slice <= 60; slice += slice == 3 ? 57 : 1) {
            String ones = "adc 1; ".repeat(slice - 1);
            MeetingMachines x = Due.of("slice " + slice + "; a: " + ones + "j a; run 0 20 1 a;");
            x.tick(slice);
            due.is("j as the last of SLICE " + slice, x.machine(0, 4), -1);
            due.is("SCHEDULED", x.queue(0, 1, 0), 41);
        }
        MeetingMachines x = Due.of("slice 5; a: adc 1; adc 1; adc 1; j b; b: adc 1; adc 1; j a; run 0 20 1 a;");
        x.tick(6);
        due.is("j as one less goes on", x.machine(0, 8), 6);
        x.tick(1);
        due.is("j as one more is OFF", x.machine(0, 4), -1);
        due.is("I", x.word(0, 19), 0);
    }

    /** No INSTRUCTION but j ends a slice, cj neither. */
    private static void sliceIsLookedAtByJAlone() {
        MeetingMachines x = Due.of("slice 1; a: ldc 0; cj a; run 0 20 1 a; run 0 30 1 a;");
        x.tick(50);
        due.is("who runs", x.machine(0, 4), 20);
        due.is("did", x.machine(0, 8), 50);
    }

    /** "behind endp, which goes on counting, likewise". */
    private static void sliceBehindEndp() {
        for (int slice = 4; slice <= 5; slice++) {
            MeetingMachines x = Due.of("word 0 40 0; word 0 41 1; a: j b; b: ldc 40; dup; endp; run 0 20 1 b;");
            x.slice(slice);
            x.tick(3);
            due.is("endp goes on", x.machine(0, 8), 3);
            x.tick(1);
            due.is("the j behind it", x.machine(0, 4), slice == 4 ? -1 : 40);
        }
    }

    /** "startp a process .. with W A (5 to 95): B comes to A - 1, it is SCHEDULED; POP, POP." */
    private static void startpBounds() {
        for (int w : new int[] {5, 95}) {
            MeetingMachines x = fits("ldc 8; ldc 3; ldc " + w + "; startp;", 4);
            due.is("B at A - 1", x.word(0, w - 1), 3);
            due.is("SCHEDULED", x.queue(0, 0, 0), 2 * w);
            has("startp", x, 8, 8, 8);
        }
        halts("ldc 3; ldc 4; startp;", 3);
        halts("ldc 3; ldc 96; startp;", 3);
        halts("ldc 3; ldc -1; startp;", 3);
    }

    /** "a process of its PRIORITY". */
    private static void startpOfItsPriority() {
        for (int priority = 0; priority < 2; priority++) {
            MeetingMachines x = Due.of("a: ldc 0; ldc 50; startp;");
            x.start(1, 20, priority, 0);
            x.tick(3);
            due.is("SCHEDULED", x.queue(1, priority, 0), 100 + priority);
            due.is("not with the others", x.queue(1, 1 - priority, -1), 0);
        }
    }

    /** "endp the word at A + 1": A + 1 is a place, 0 to 95. */
    private static void endpBounds() {
        due.is("place 0", fits("ldc -1; endp;", 2).word(0, 0), -2);
        due.is("place 95", fits("ldc 94; endp;", 2).word(0, 95), -2);
        halts("ldc -2; endp;", 2);
        halts("ldc 95; endp;", 2);
    }

    /** "if it is 0 then .., W is A (5 to 95), I is the word at A, CLEAR". */
    private static void endpOfTheLast() {
        for (int w : new int[] {5, 94}) {
            MeetingMachines x = Due.of("a: ldc 1; ldc 2; ldc " + w + "; endp; run 0 20 0 a;");
            x.poke(0, w, 77);
            x.poke(0, w + 1, 1);
            x.tick(4);
            due.is("W", x.machine(0, 4), w);
            due.is("I", x.machine(0, 3), 77);
            due.is("the word", x.word(0, w + 1), 0);
            has("CLEAR", x, 0, 0, 0);
            due.is("I isn't told at W - 1", x.word(0, 19), 0);
        }
        for (int w : new int[] {4, -1}) {
            MeetingMachines x = Due.of("a: ldc " + w + "; endp; run 0 20 0 a;");
            x.poke(0, w + 1, 1);
            x.tick(2);
            due.is("A " + w + " is no W", x.machine(0, 7), 1);
            due.is("the word is as ahead", x.word(0, w + 1), 1);
        }
    }

    /** "(else A is not looked at) .. else nobody runs (OFF without its I)". */
    private static void endpOfOthers() {
        for (int left : new int[] {2, 0, -1, FAR, LOW_FAR}) {
            MeetingMachines x = Due.of("a: ldc 4; endp; run 0 20 0 a;");
            x.poke(0, 5, left);
            x.tick(2);
            due.is("the word", x.word(0, 5), left - 1);
            due.is("nobody runs", x.machine(0, 4), -1);
            due.is("HALTED", x.machine(0, 7), 0);
            due.is("I isn't told", x.word(0, 19), 0);
            due.yes("nobody is SCHEDULED", x.stuck());
        }
    }

    /** "stopp OFF": I comes to W - 1, nobody runs; W 5 has its I at place 4. */
    private static void stoppTellsI() {
        MeetingMachines x = fits("ajw -15; stopp;", 2);
        due.is("I", x.word(0, 4), 2);
        due.is("nobody runs", x.machine(0, 4), -1);
        due.is("of the old W", x.word(0, 19), 0);
    }

    /** "runp A, a PROCESS WORD": 10 to 191. */
    private static void runpBounds() {
        for (int word : new int[] {10, 11, 190, 191}) {
            MeetingMachines x = fits("ldc 7; ldc " + word + "; runp;", 3);
            due.is("SCHEDULED", x.queue(0, word % 2, 0), word);
            has("POP", x, 7, 0, 0);
        }
        for (int word : new int[] {9, 192, 0, -1, -2, 9999, -9999}) {
            halts("ldc " + word + "; runp;", 2);
        }
    }

    /** "the QUEUE of its PRIORITY": of the one that its word says, not of who does runp; nothing comes to W - 1. */
    private static void runpOfEitherPriority() {
        for (int word = 60; word <= 61; word++) {
            for (int priority = 0; priority < 2; priority++) {
                MeetingMachines x = Due.of("a: ldc " + word + "; runp; word 0 29 55;");
                x.start(0, 20, priority, 0);
                x.tick(2);
                due.is("SCHEDULED", x.queue(0, word - 60, 0), word);
                due.is("the other QUEUE", x.queue(0, 61 - word, -1), 0);
                due.is("its I", x.word(0, 29), 55);
            }
        }
    }

    /** "altend I is the word at W": an INSTRUCTION that there isn't HALTS the next TICK alone. */
    private static void altendAnywhere() {
        for (int to : new int[] {-1, 1, FAR, LOW_FAR}) {
            MeetingMachines x = Due.of("a: altend; run 0 20 0 a;");
            x.poke(0, 20, to);
            x.tick(1);
            due.is("I", x.machine(0, 3), to);
            due.is("HALTED", x.machine(0, 7), 0);
            x.tick(1);
            due.is("HALTED", x.machine(0, 7), 1);
        }
        MeetingMachines x = Due.of("a: altend; word 0 20 0; run 0 20 0 a;");
        x.tick(300);
        due.is("I 0", x.machine(0, 3), 0);
        due.is("did", x.machine(0, 8), 300);
    }

    /** "tin unless CLOCK is AFTER A": at A itself it is put into TIMERS. */
    private static void tinAtItsTime() {
        for (int time = 0; time <= 2; time++) {
            MeetingMachines x = Due.of("a: ldc " + time + "; tin; stopp; run 0 20 0 a;");
            x.tick(2);
            due.is("CLOCK 1, time " + time, x.machine(0, 4), time == 0 ? 20 : -1);
            due.is("SCHEDULED", x.queue(0, 0, -1), time == 1 ? 1 : 0);
            due.is("in TIMERS", x.machine(0, 10), time == 2 ? 1 : 0);
            due.is("I at W - 1", x.word(0, 19), time == 0 ? 0 : 2);
        }
    }

    /** "CLEAR" of one that goes on. */
    private static void tinClears() {
        has("tin", fits("ldc 1; ldc 2; ldc 0; tin;", 4), 0, 0, 0);
    }

    /** "To POP: A is B, B is C": C stays; "B is C" of add, sub, mul, gt likewise. */
    private static void popLeavesC() {
        String three = "ldc 1; ldc 2; ldc 3; ";
        has("stl", fits(three + "stl 1;", 4), 2, 1, 1);
        has("cj", fits(three + "cj b; b: halt;", 4), 2, 1, 1);
        has("add", fits(three + "add;", 4), 5, 1, 1);
        has("sub", fits(three + "sub;", 4), -1, 1, 1);
        has("mul", fits(three + "mul;", 4), 6, 1, 1);
        has("gt", fits(three + "gt;", 4), 0, 1, 1);
        has("rev", fits(three + "rev;", 4), 2, 3, 1);
        has("PUSH", fits(three + "dup;", 4), 3, 3, 2);
        has("PUSH", fits(three + "clock;", 4), 3, 3, 2);
        has("PUSH", fits(three + "ldpri;", 4), 0, 3, 2);
        has("PUSH", fits(three + "ldlp 0;", 4), 20, 3, 2);
        has("PUSH", fits(three + "b: ldpi b;", 4), 3, 3, 2);
    }
}
