import java.util.function.Consumer;

/** Each sentence on the calls 9 to 27 that names a boundary: the least, the most, none, full, now, not by then. */
public final class CallEdgesTest {
    private static final Due due = new Due();
    private static final int FAR = Integer.MAX_VALUE;
    private static final int LOW_FAR = Integer.MIN_VALUE;
    private static final String COUNTER = "a: ldl 1; adc 1; stl 1; j a; run 0 20 0 a;";

    public static void main(String[] args) {
        newObject();
        sliceFromOneToSixty();
        pokeAtEachEnd();
        startAtEachEnd();
        tickFromOneToThreeHundred();
        tickTellsItsOwnMeetings();
        undoOfEight();
        undoLeavesNothingBehind();
        undoneActIsGone();
        machineOfNobody();
        queueOfFortyEight();
        timerOfTwelve();
        linkOfNobody();
        aheadOfNow();
        aheadByThreeHundred();
        aheadOfBoth();
        shareOfAll();
        shareOfNobody();
        untilFirst();
        slicesOfSixteen();
        keepAndBackWhole();
        keptStays();
        backLeavesNothingToUndo();
        countOfOthers();
        fiveHundredAndTwelfthCall();
        due.end();
    }

    /** "As by a PROGRAM without LINES." */
    private static void newObject() {
        MeetingMachines x = new MeetingMachines();
        x.text();
        due.yes("a new object is as by a PROGRAM without LINES", Picture.of(new MeetingMachines()).equals(Picture.of(x)));
        x = Scene.rich();
        x.end(0);
        due.is("text()", x.text(), 0);
        due.yes("and so it is behind another PROGRAM", Picture.of(new MeetingMachines()).equals(Picture.of(x)));
    }

    /** "SLICE is n (1 to 60): what it was". */
    private static void sliceFromOneToSixty() {
        MeetingMachines x = new MeetingMachines();
        int was = 8;
        for (int n = 1; n <= 60; n++) {
            due.is("slice(" + n + ")", x.slice(n), was);
            due.is("SLICE", x.count(3), n);
            was = n;
        }
        due.is("ACTS", x.count(6), 8);
    }

    /** "A word of a machine is v". */
    private static void pokeAtEachEnd() {
        MeetingMachines x = new MeetingMachines();
        for (int m = 0; m < 2; m++) {
            for (int place = 0; place <= 95; place += 95) {
                for (int v : new int[] {FAR, LOW_FAR, 0, -1, 7 + m + place}) {
                    due.yes("poke", x.poke(m, place, v));
                    due.is("word", x.word(m, place), v);
                }
            }
        }
        due.is("the first word still", x.word(0, 0), 7);
        due.is("beside it", x.word(0, 1), -1);
    }

    /** "i comes to W - 1, it is SCHEDULED": W 5 and 95, the first and the last INSTRUCTION. */
    private static void startAtEachEnd() {
        for (int w = 5; w <= 95; w += 90) {
            for (int priority = 0; priority < 2; priority++) {
                for (int i = 0; i < 3; i += 2) {
                    MeetingMachines x = Due.of("halt; halt; ldpri;");
                    due.yes("start", x.start(1, w, priority, i));
                    due.is("I", x.word(1, w - 1), i);
                    due.is("SCHEDULED", x.queue(1, priority, 0), 2 * w + priority);
                    due.is("alone", x.queue(1, priority, -1), 1);
                    due.is("the other QUEUE", x.queue(1, 1 - priority, -1), 0);
                    due.is("the other machine", x.queue(0, priority, -1), 0);
                }
            }
        }
        due.no("no INSTRUCTION at all", new MeetingMachines().start(0, 20, 0, 0));
    }

    /** "n TICKS (1 to 300) go by". */
    private static void tickFromOneToThreeHundred() {
        MeetingMachines x = Due.of(COUNTER);
        x.tick(1);
        due.is("1", x.count(4), 1);
        x.tick(300);
        due.is("300", x.count(4), 301);
        due.is("CLOCK", x.machine(0, 6), 301);
        due.is("each is an ACT", x.count(6), 2);
    }

    /** "how many MEETINGS there were in these". */
    private static void tickTellsItsOwnMeetings() {
        MeetingMachines x = Due.of("s: ldlp 1; ldc 60; ldc 1; out; j s; r: ldlp 1; ldc 60; ldc 1; in; j r;"
                + "run 0 20 0 s; run 0 30 0 r;");
        due.is("none by 7", x.tick(7), 0);
        due.is("one in the eighth", x.tick(1), 1);
        due.is("none in the ninth", x.tick(1), 0);
        int more = x.tick(300);
        due.yes("more than are kept", more > 29);
        due.is("all", x.count(5), 1 + more);
    }

    /** "the last 8 can be UNDONE, one by one"; "how many can be still; NONE: none can be." */
    private static void undoOfEight() {
        for (int acts = 0; acts <= 20; acts++) {
            MeetingMachines x = Due.of(COUNTER);
            for (int k = 0; k < acts; k++) {
                x.poke(1, 50, k);
            }
            int can = Math.min(acts, 8);
            due.is("ACTS", x.count(6), can);
            for (int left = can - 1; left >= 0; left--) {
                due.is("undo()", x.undo(), left);
                due.is("word", x.word(1, 50), acts - can + left - 1);
            }
            due.is("undo()", x.undo(), -1);
            due.is("undo()", x.undo(), -1);
            x.poke(1, 50, 77);
            due.is("an ACT again", x.count(6), 1);
        }
    }

    private static void same(String what, MeetingMachines x, MeetingMachines y) {
        String got = Picture.of(x);
        String want = Picture.of(y);
        due.yes(what + "; it is\n" + got + "\nand should be\n" + want + "\nso this", got.equals(want));
    }

    private static void undone(String what, Consumer<MeetingMachines> act) {
        MeetingMachines x = Scene.rich();
        act.accept(x);
        x.undo();
        same(what + " undone", x, Scene.rich());
    }

    /** "The latest ACT is UNDONE": all is as ahead of it, MEETINGS, SLICE and TICKS, too. */
    private static void undoLeavesNothingBehind() {
        undone("slice", x -> x.slice(33));
        undone("poke", x -> x.poke(0, 60, 5));
        undone("start", x -> x.start(1, 40, 1, 3));
        undone("tick", x -> x.tick(1));
        undone("tick", x -> x.tick(300));
        for (int seed = 1; seed <= 60; seed++) {
            for (int ticks = 11; ticks <= 77; ticks += 33) {
                MeetingMachines x = Scene.made(seed, ticks);
                x.tick(seed);
                x.poke(0, 61, seed);
                x.tick(2 * seed);
                x.undo();
                x.undo();
                x.undo();
                same("made of " + seed + " behind " + ticks + " TICKS", x, Scene.made(seed, ticks));
            }
        }
    }

    /** What was UNDONE is gone: another ACT takes its place. */
    private static void undoneActIsGone() {
        MeetingMachines x = Due.of(COUNTER);
        x.poke(1, 50, 1);
        x.poke(1, 50, 2);
        x.undo();
        x.poke(1, 50, 3);
        due.is("ACTS", x.count(6), 2);
        due.is("undo()", x.undo(), 1);
        due.is("word", x.word(1, 50), 1);
        due.is("undo()", x.undo(), 0);
        due.is("word", x.word(1, 50), -1);
    }

    /** "(each NONE, if nobody does) .. (0: nobody runs) .. (NONE) .. NONE for others." */
    private static void machineOfNobody() {
        MeetingMachines x = Due.of("a: ldc 3; stopp; run 0 20 0 a;");
        int[] nobody = {-1, -1, -1, -1, -1, -1, 0, 0, 0, -1, 0};
        for (int m = 0; m < 2; m++) {
            for (int what = 0; what < nobody.length; what++) {
                due.is("machine(" + m + ", " + what + ")", x.machine(m, what), nobody[what]);
            }
        }
        x.tick(2);
        for (int what = 0; what < nobody.length; what++) {
            due.is("OFF: machine(0, " + what + ")", x.machine(0, what), what == 6 ? 2 : nobody[what]);
        }
        for (int what : new int[] {-1, 11, 19, 20, FAR, LOW_FAR}) {
            due.is("machine(0, " + what + ")", x.machine(0, what), -1);
        }
        for (int m : new int[] {-1, 2, FAR, LOW_FAR}) {
            due.is("machine(" + m + ", 6)", x.machine(m, 6), -1);
        }
    }

    /** "(.. 48 at most); how many (i NONE); -2: not so many, others; NONE: no such machine, PRIORITY." */
    private static void queueOfFortyEight() {
        for (int many = 46; many <= 49; many++) {
            MeetingMachines x = Due.of("halt;");
            int made = 0;
            for (int w = 7; made < many; w++, made++) {
                x.start(0, w, 1, 0);
            }
            // their words overlap: they are told anew
            for (int k = 0; k < many - 1; k++) {
                x.poke(0, 5 + k, 2 * (8 + k) + 1);
            }
            int told = Math.min(many, 48);
            due.is("how many of " + many, x.queue(0, 1, -1), told);
            due.is("the last", x.queue(0, 1, told - 1), 2 * (6 + told) + 1);
            due.is("no more", x.queue(0, 1, told), -2);
            for (int i : new int[] {-2, FAR, LOW_FAR}) {
                due.is("i " + i, x.queue(0, 1, i), -2);
            }
            for (int other : new int[] {-1, 2, FAR, LOW_FAR}) {
                due.is("no such PRIORITY", x.queue(0, other, -2), -1);
                due.is("no such machine", x.queue(other, 1, -2), -1);
            }
        }
    }

    /** "how many (i NONE, what 0); NONE: others": the twelfth, the thirteenth. */
    private static void timerOfTwelve() {
        StringBuilder text = new StringBuilder("a: ldc 500; tin; stopp;");
        for (int k = 0; k < 12; k++) {
            text.append("run 1 ").append(5 + 7 * k).append(" 0 a;");
        }
        MeetingMachines x = Due.of(text.toString());
        for (int many = 0; many <= 12; many++) {
            due.is("how many", x.timer(1, -1, 0), many);
            due.is("how many", x.machine(1, 10), many);
            due.is("no more", x.timer(1, many, 0), -1);
            due.is("no more", x.timer(1, many, 1), -1);
            if (many > 0) {
                due.is("the last", x.timer(1, many - 1, 0), 2 * (5 + 7 * (many - 1)));
                due.is("its time", x.timer(1, many - 1, 1), 500);
            }
            x.tick(2);
        }
        for (int other : new int[] {-1, 2, FAR, LOW_FAR}) {
            due.is("what " + other, x.timer(1, 0, other), -1);
            due.is("how many, what " + other, x.timer(1, -1, other), -1);
            due.is("no such machine", x.timer(other, -1, 0), -1);
        }
        due.is("how many, what 1", x.timer(1, -1, 1), -1);
        due.is("i -2", x.timer(1, -2, 0), -1);
        due.is("i FAR", x.timer(1, FAR, 0), -1);
        due.is("i LOW_FAR", x.timer(1, LOW_FAR, 0), -1);
    }

    /** "(0, 2, 6: NONE without; 1, 3: 0 without). NONE for others." */
    private static void linkOfNobody() {
        MeetingMachines x = new MeetingMachines();
        int[] nobody = {-1, 0, -1, 0, 0, 0, -1};
        for (int m = 0; m < 2; m++) {
            for (int k = 0; k < 2; k++) {
                for (int what = 0; what < nobody.length; what++) {
                    due.is("link(" + m + ", " + k + ", " + what + ")", x.link(m, k, what), nobody[what]);
                }
            }
        }
        for (int other : new int[] {-1, 2, FAR, LOW_FAR}) {
            due.is("no such machine", x.link(other, 0, 1), -1);
            due.is("no such LINK", x.link(0, other, 1), -1);
            due.is("what " + other, x.link(0, 0, other == 2 ? 7 : other), -1);
        }
    }

    /** "(2, 3: 0 now ..)" by 0 TICKS and by more; 0 and 1 are of none by 0. */
    private static void aheadOfNow() {
        MeetingMachines x = Due.of("a: ldc 5; halt; run 1 20 0 a;");
        due.is("no MEETINGS by 0", x.ahead(0, 0), 0);
        due.is("none HALTED by 0", x.ahead(0, 1), 0);
        due.is("not STUCK by 0", x.ahead(0, 2), -2);
        due.is("none HALTED by 0", x.ahead(0, 3), -2);
        due.is("not by 1", x.ahead(1, 3), -2);
        due.is("by 2", x.ahead(2, 3), 2);
        due.is("by 2", x.ahead(2, 2), 2);
        due.is("which", x.ahead(2, 1), 2);
        x.tick(2);
        for (int n = 0; n <= 300; n += 150) {
            due.is("HALTED now", x.ahead(n, 3), 0);
            due.is("STUCK now", x.ahead(n, 2), 0);
            due.is("which", x.ahead(n, 1), 2);
        }
    }

    /** "By n TICKS (0 to 300) to come"; "-2: not by then". */
    private static void aheadByThreeHundred() {
        MeetingMachines x = Due.of("a: ldc 298; tin; halt; run 0 20 0 a; b: ldc 297; tin; stopp; run 1 20 0 b;");
        due.is("299 TICKS and one that HALTS", x.ahead(300, 3), 300);
        due.is("not by 299", x.ahead(299, 3), -2);
        due.is("STUCK then", x.ahead(300, 2), 300);
        due.is("not by 299", x.ahead(299, 2), -2);
        due.is("bits", x.ahead(300, 1), 1);
        due.is("bits by 299", x.ahead(299, 1), 0);
        for (int n : new int[] {-1, 301, FAR, LOW_FAR}) {
            for (int what = 0; what < 4; what++) {
                due.is("ahead(" + n + ", " + what + ")", x.ahead(n, what), -1);
            }
        }
        for (int what : new int[] {-1, 4, FAR, LOW_FAR}) {
            due.is("ahead(5, " + what + ")", x.ahead(5, what), -1);
        }
    }

    /** "which machines are HALTED then, as bits": none, each, both. */
    private static void aheadOfBoth() {
        for (int bits = 0; bits < 4; bits++) {
            MeetingMachines x = Due.of("a: halt; b: stopp; run 0 20 0 " + (bits % 2 == 1 ? "a" : "b") + "; run 1 20 0 "
                    + (bits > 1 ? "a" : "b") + ";");
            due.is("HALTED by 1", x.ahead(1, 1), bits);
            due.is("HALTED first", x.ahead(1, 3), bits == 0 ? -2 : 1);
        }
    }

    /** "In how many of n TICKS .. of a HIGH process (p 0), of a LOW one (1), none (2 ..)": n in all. */
    private static void shareOfAll() {
        for (int n : new int[] {1, 2, 17, 299, 300}) {
            MeetingMachines x = Scene.rich();
            for (int m = 0; m < 2; m++) {
                due.is("all of " + n, x.share(m, 0, n) + x.share(m, 1, n) + x.share(m, 2, n), n);
            }
        }
        MeetingMachines x = Scene.rich();
        for (int other : new int[] {-1, 3, FAR, LOW_FAR}) {
            due.is("p " + other, x.share(0, other, 5), -1);
            due.is("machine " + other, x.share(other == 3 ? 2 : other, 0, 5), -1);
            due.is("n " + other, x.share(0, 0, other == 3 ? 301 : other), -1);
        }
        due.is("n 0", x.share(0, 0, 0), -1);
    }

    /** "none (2; one that HALTS is none)": nobody runs behind one that ran, too. */
    private static void shareOfNobody() {
        MeetingMachines x = Due.of("a: adc 1; stopp; h: adc 1; halt; run 0 20 0 a; run 1 20 1 h;");
        due.is("HIGH", x.share(0, 0, 10), 2);
        due.is("LOW", x.share(0, 1, 10), 0);
        due.is("none", x.share(0, 2, 10), 8);
        due.is("none of one TICK", x.share(0, 2, 1), 0);
        due.is("none of three", x.share(0, 2, 3), 1);
        due.is("LOW of who HALTS", x.share(1, 1, 10), 1);
        due.is("none of who HALTS", x.share(1, 2, 10), 9);
        due.is("in the TICK that HALTS", x.share(1, 2, 2), 1);
        x.tick(2);
        due.is("HALTED now", x.share(1, 2, 300), 300);
        due.is("idle now", x.share(0, 2, 300), 300);
    }

    /** "Behind how many of n TICKS (0 to 300) to come the word at a place is v first (0: now)". */
    private static void untilFirst() {
        MeetingMachines x = Due.of("a: ldc 5; stl 1; ldc -1; stl 1; j a; b: ldc 297; tin; ldc 7; stl 1; run 0 20 0 a;"
                + "run 1 20 0 b;");
        due.is("now", x.until(0, 21, -1, 0), 0);
        due.is("now, though again later", x.until(0, 21, -1, 300), 0);
        due.is("first", x.until(0, 21, 5, 300), 2);
        due.is("by 2", x.until(0, 21, 5, 2), 2);
        due.is("not by 1", x.until(0, 21, 5, 1), -2);
        due.is("not by 0", x.until(0, 21, 5, 0), -2);
        due.is("in the 300th", x.until(1, 21, 7, 300), 300);
        due.is("not by 299", x.until(1, 21, 7, 299), -2);
        due.is("never", x.until(1, 21, 8, 300), -2);
        for (int n : new int[] {-1, 301, FAR, LOW_FAR}) {
            due.is("n " + n, x.until(0, 21, -1, n), -1);
        }
        for (int place : new int[] {-1, 96, FAR, LOW_FAR}) {
            due.is("place " + place, x.until(0, place, -1, 5), -1);
        }
        for (int m : new int[] {-1, 2, FAR, LOW_FAR}) {
            due.is("machine " + m, x.until(m, 21, -1, 5), -1);
        }
        due.is("place 0", x.until(0, 0, -1, 0), 0);
        due.is("place 95", x.until(1, 95, -1, 0), 0);
    }

    /** "if SLICE is 1, 2 .. 16 from now on": q tells the CLOCK when p is OFF first, that is SLICE. */
    private static void slicesOfSixteen() {
        MeetingMachines x = Due.of("slice 40; p: j p; q: clock; ldc 60; store; stopp; run 0 20 1 p; run 0 30 1 q;");
        int[] unlike = {1, 1, 1, 1, 2, 3, 4, 5, 6, 7, 8, 9, 10, 11, 12, 13, 14, 15, 16, 16, 16};
        for (int n = 0; n < unlike.length; n++) {
            due.is("slices(0, 60, " + n + ")", x.slices(0, 60, n), unlike[n]);
        }
        due.is("by 200", x.slices(0, 60, 200), 16);
        due.is("the other machine", x.slices(1, 60, 200), 1);
        due.is("SLICE stays", x.count(3), 40);
        due.is("place 0", x.slices(0, 0, 5), 1);
        due.is("place 95", x.slices(0, 95, 5), 1);
        for (int n : new int[] {-1, 201, 300, FAR, LOW_FAR}) {
            due.is("n " + n, x.slices(0, 60, n), -1);
        }
        for (int place : new int[] {-1, 96, FAR, LOW_FAR}) {
            due.is("place " + place, x.slices(0, place, 5), -1);
        }
        for (int m : new int[] {-1, 2, FAR, LOW_FAR}) {
            due.is("machine " + m, x.slices(m, 60, 5), -1);
        }
    }

    /** "Both machines as they are (SLICE, MEETINGS, TICKS, too) are kept"; "They are as kept in place k". */
    private static void keepAndBackWhole() {
        for (int seed = 1; seed <= 60; seed++) {
            int k = seed % 2;
            MeetingMachines x = Scene.made(seed, 10 + seed);
            x.keep(k);
            x.slice(60);
            x.tick(seed);
            x.poke(1, 61, 5);
            x.tick(2 * seed);
            x.back(k);
            MeetingMachines y = Scene.made(seed, 10 + seed);
            y.keep(k);
            y.back(k);
            same("made of " + seed + " back", x, y);
        }
    }

    /** "(what is kept stays ..)": each place its own, over and over, till it is kept anew. */
    private static void keptStays() {
        MeetingMachines x = Due.of(COUNTER);
        due.no("nothing in 0", x.back(0));
        due.no("nothing in 1", x.back(1));
        x.tick(3);
        due.yes("keep(1)", x.keep(1));
        due.no("nothing in 0 still", x.back(0));
        x.tick(4);
        due.yes("keep(0)", x.keep(0));
        for (int again = 0; again < 3; again++) {
            x.tick(5);
            due.yes("back(1)", x.back(1));
            due.is("TICKS", x.count(4), 3);
            due.is("word", x.word(0, 21), 0);
            x.poke(0, 21, 50);
            due.yes("back(0)", x.back(0));
            due.is("TICKS", x.count(4), 7);
            due.is("word", x.word(0, 21), 1);
        }
        due.yes("keep(1) anew", x.keep(1));
        x.tick(5);
        due.yes("back(1)", x.back(1));
        due.is("TICKS", x.count(4), 7);
        Due.tape(x, COUNTER);
        x.text();
        due.no("nothing kept behind text()", x.back(0));
        due.no("nothing kept behind text()", x.back(1));
    }

    /** "nothing can be undone then". */
    private static void backLeavesNothingToUndo() {
        MeetingMachines x = Due.of(COUNTER);
        x.keep(0);
        for (int k = 0; k < 9; k++) {
            x.tick(1);
        }
        due.is("ACTS", x.count(6), 8);
        x.keep(1);
        due.is("keep is no ACT", x.count(6), 8);
        due.no("back that is refused", x.back(2));
        due.is("ACTS still", x.count(6), 8);
        x.back(0);
        due.is("ACTS", x.count(6), 0);
        due.is("undo()", x.undo(), -1);
        due.is("TICKS", x.count(4), 0);
        x.tick(2);
        due.is("one ACT", x.undo(), 0);
        due.is("TICKS", x.count(4), 0);
    }

    /** "NONE for others." */
    private static void countOfOthers() {
        for (int what : new int[] {-1, 8, FAR, LOW_FAR}) {
            due.is("count(" + what + ")", Scene.rich().count(what), -1);
        }
        MeetingMachines x = new MeetingMachines();
        for (int k = 1; k <= 36; k++) {
            x.feed(k, k, k, k, k);
            due.is("bytes of THE TAPE", x.count(7), Math.min(20 * k, 700));
        }
    }

    /** "An object is used for at most 512 calls": the last one is right, too. */
    private static void fiveHundredAndTwelfthCall() {
        MeetingMachines x = Due.of(COUNTER);
        // feed, feed, feed, end, end and text went ahead
        for (int k = 6; k < 510; k++) {
            x.tick(300);
        }
        due.is("TICKS", x.count(4), 504 * 300);
        due.is("CLOCK", x.machine(0, 6), 504 * 300);
    }
}
