/** Each sentence on in, out, AWAKE, alternatives, LINKS, JOINS, MEETINGS and STUCK that names a boundary. */
public final class MeetingEdgesTest {
    private static final Due due = new Due();
    private static final int FAR = Integer.MAX_VALUE;
    private static final int LOW_FAR = Integer.MIN_VALUE;
    private static final String RUN = "run 0 20 0 a;";
    private static final String THREE = "ldc 1; ldc 2; ldc 3; ";

    public static void main(String[] args) {
        oneToEightWords();
        placesOfTheWords();
        placesOfTheChannel();
        channelHoldsNobody();
        channelHoldsAProcessWord();
        placesOfTheOther();
        statesForOut();
        statesForIn();
        orderOfWaiting();
        meetingClears();
        awakeLeavesTheFirstSo();
        altAndTalt();
        guardsOfEnbc();
        channelsOfEnbc();
        guardsOfEnbsAndEnbt();
        timesOfEnbt();
        altwtByState();
        taltwtByTime();
        taltwtByState();
        taltwtClears();
        channelsOfDisc();
        firedWhileNobodyIs();
        timesOfDist();
        whatDiscDissDistLeave();
        placesOfLinks();
        linksThatAreUsed();
        boundsOnLinks();
        guardsOfLinks();
        altOfALink();
        altByState();
        bufferOfOneWord();
        joinToldNowhere();
        lastToReceiveLastToSend();
        joinOfOneMachine();
        joinsAsTold();
        joinsOfHalted();
        thirtyMeetings();
        meetingOfALink();
        stuckByMachines();
        stuckByJoins();
        due.end();
    }

    private static MeetingMachines after(int ticks, String text) {
        MeetingMachines x = Due.of(text);
        x.tick(ticks);
        return x;
    }

    private static void halts(String text, int ticks) {
        due.is(text + " not yet HALTED", after(ticks - 1, text).machine(0, 7), 0);
        due.is(text + " HALTED", after(ticks, text).machine(0, 7), 1);
    }

    private static MeetingMachines fits(String text, int ticks) {
        MeetingMachines x = after(ticks, text);
        due.is(text + " HALTED", x.machine(0, 7), 0);
        return x;
    }

    private static void has(String what, MeetingMachines x, int a, int b, int c) {
        due.is(what + " A", x.machine(0, 0), a);
        due.is(what + " B", x.machine(0, 1), b);
        due.is(what + " C", x.machine(0, 2), c);
    }

    /** Machine 0's process at W 20 does code; the other's words stand in MEMORY as told. */
    private static String one(String code, String words) {
        return "a: " + code + " " + words + " " + RUN;
    }

    /** "out, in: A how many words (1 to 8)". */
    private static void oneToEightWords() {
        for (String op : new String[] {"out", "in"}) {
            for (int many : new int[] {1, 8}) {
                due.is("waits", fits(one("ldc 70; ldc 60; ldc " + many + "; " + op + ";", ""), 4).word(0, 60), 40);
            }
            for (int many : new int[] {0, 9, -1, 9999, -9999}) {
                halts(one("ldc 70; ldc 60; ldc " + many + "; " + op + ";", ""), 4);
            }
        }
        MeetingMachines x = Due.of(one("ldc 70; ldc 60; ldc 8; out;", "word 0 60 81; word 0 37 80;"));
        for (int k = 0; k < 9; k++) {
            x.poke(0, 70 + k, 100 + k);
        }
        x.tick(4);
        for (int k = 0; k < 8; k++) {
            due.is("eight words", x.word(0, 80 + k), 100 + k);
        }
        due.is("no ninth", x.word(0, 88), -1);
    }

    /** "C the first place of the words (all must be places)". */
    private static void placesOfTheWords() {
        for (String op : new String[] {"out", "in"}) {
            for (int many = 1; many <= 8; many += 7) {
                String tail = "; ldc 60; ldc " + many + "; " + op + ";";
                due.is("from 0 on", fits(one("ldc 0" + tail, ""), 4).word(0, 17), 0);
                due.is("up to 95", fits(one("ldc " + (96 - many) + tail, ""), 4).word(0, 17), 96 - many);
                halts(one("ldc -1" + tail, ""), 4);
                halts(one("ldc " + (97 - many) + tail, ""), 4);
                halts(one("ldc 96" + tail, ""), 4);
            }
        }
    }

    /** "B the channel's place": 0 to 95; of those 4 and above are no LINKS. */
    private static void placesOfTheChannel() {
        for (String op : new String[] {"out", "in"}) {
            due.is("place 4", fits(one("ldc 70; ldc 4; ldc 1; " + op + ";", ""), 4).word(0, 4), 40);
            due.is("place 95", fits(one("ldc 70; ldc 95; ldc 1; " + op + ";", ""), 4).word(0, 95), 40);
            halts(one("ldc 70; ldc -1; ldc 1; " + op + ";", ""), 4);
            halts(one("ldc 70; ldc 96; ldc 1; " + op + ";", ""), 4);
            halts(one("ldc 70; ldc 9999; ldc 1; " + op + ";", ""), 4);
        }
    }

    /** "-1: OWN comes there, C to W - 3, OFF." */
    private static void channelHoldsNobody() {
        for (int priority = 0; priority < 2; priority++) {
            for (String op : new String[] {"out", "in"}) {
                MeetingMachines x = Due.of("a: ldc 70; ldc 60; ldc 2; " + op + ";");
                x.start(0, 20, priority, 0);
                x.tick(4);
                due.is("OWN", x.word(0, 60), 40 + priority);
                due.is("C", x.word(0, 17), 70);
                due.is("I", x.word(0, 19), 4);
                due.is("nobody runs", x.machine(0, 4), -1);
                due.is("no MEETING", x.count(5), 0);
            }
        }
    }

    /** "Else v is a PROCESS WORD": 10 to 191. */
    private static void channelHoldsAProcessWord() {
        for (String op : new String[] {"out", "in"}) {
            String code = "ldc 70; ldc 60; ldc 1; " + op + ";";
            for (int v : new int[] {10, 11, 190, 191}) {
                String words = "word 0 60 " + v + "; word 0 " + (v / 2 - 3) + " 80;";
                MeetingMachines x = fits(one(code, words), 4);
                due.is("SCHEDULED", x.queue(0, v % 2, 0), v);
                due.is("the channel", x.word(0, 60), -1);
                due.is("a MEETING", x.count(5), 1);
            }
            for (int v : new int[] {9, 192, 0, 1, -2, -4, 9999}) {
                halts(one(code, "word 0 60 " + v + ";"), 4);
            }
        }
    }

    /** "from C on to s on (in: from s on to C on) ..; all must be places". */
    private static void placesOfTheOther() {
        for (String op : new String[] {"out", "in"}) {
            for (int many = 1; many <= 8; many += 7) {
                String code = "ldc 70; ldc 60; ldc " + many + "; " + op + ";";
                due.is("from 0 on", fits(one(code, "word 0 60 100; word 0 47 0;"), 4).count(5), 1);
                due.is("up to 95", fits(one(code, "word 0 60 100; word 0 47 " + (96 - many) + ";"), 4).count(5), 1);
                halts(one(code, "word 0 60 100; word 0 47 " + (97 - many) + ";"), 4);
                halts(one(code, "word 0 60 100; word 0 47 -1;"), 4);
                halts(one(code, "word 0 60 100; word 0 47 9999;"), 4);
            }
        }
    }

    /** "out: if s is ENABLING it is READY; WAITING: it is READY, and v is AWAKE; READY: nothing": no STATE but these. */
    private static void statesForOut() {
        String code = "ldc 70; ldc 60; ldc 1; out;";
        for (int s = -4; s <= -2; s++) {
            MeetingMachines x = fits(one(code, "word 0 60 101; word 0 47 " + s + ";"), 4);
            due.is("READY", x.word(0, 47), -4);
            due.is("SCHEDULED", x.queue(0, 1, -1), s == -3 ? 1 : 0);
            due.is("OWN", x.word(0, 60), 40);
            due.is("C", x.word(0, 17), 70);
            due.is("nobody runs", x.machine(0, 4), -1);
            due.is("no MEETING", x.count(5), 0);
            due.is("W - 4 stays", x.word(0, 46), -1);
        }
        halts(one(code, "word 0 60 101; word 0 47 -5;"), 4);
        halts(one(code, "word 0 60 101; word 0 47 -6;"), 4);
        halts(one(code, "word 0 60 101;"), 4);
    }

    /** in looks for no STATE: it is a place or it can't be. */
    private static void statesForIn() {
        for (int s = -6; s <= -1; s++) {
            halts(one("ldc 70; ldc 60; ldc 1; in;", "word 0 60 101; word 0 47 " + s + ";"), 4);
        }
    }

    /** "OWN comes there, C to W - 3, OFF": one by one, where they come to one place. */
    private static void orderOfWaiting() {
        for (String op : new String[] {"out", "in"}) {
            due.is("C behind OWN", fits(one("ldc 70; ldc 17; ldc 1; " + op + ";", ""), 4).word(0, 17), 70);
            MeetingMachines x = fits(one("ldc 70; ldc 19; ldc 1; " + op + ";", ""), 3);
            x.poke(0, 19, -1);
            x.tick(1);
            due.is("I behind OWN", x.word(0, 19), 4);
            due.is("OFF", x.machine(0, 4), -1);
        }
        // a MEETING's words first, then the channel's -1
        MeetingMachines x = fits(one("ldc 59; ldc 60; ldc 2; in;", "word 0 60 100; word 0 47 80; word 0 81 7;"), 4);
        due.is("the channel", x.word(0, 60), -1);
        MeetingMachines y = fits(one("ldc 60; ldc 60; ldc 1; out;", "word 0 60 100; word 0 47 80;"), 4);
        due.is("what the channel held", y.word(0, 80), 100);
    }

    /** "CLEAR" of in, out that go on. */
    private static void meetingClears() {
        for (String op : new String[] {"out", "in"}) {
            has(op, fits(one("ldc 70; ldc 60; ldc 1; " + op + ";", "word 0 60 100; word 0 47 80;"), 4), 0, 0, 0);
        }
    }

    /** "AWAKE: if it is in TIMERS by taltwt it leaves them (the first so) and NOTSET comes to its W - 4". */
    private static void awakeLeavesTheFirstSo() {
        MeetingMachines x = Due.of("ldl 1; tin; stopp; taltwt; stopp; ldc 70; ldc 60; ldc 1; out; word 0 21 170;");
        x.start(0, 20, 0, 0);
        x.tick(2);
        waitsByTaltwt(x, 20, 200);
        waitsByTaltwt(x, 20, 190);
        waitsByTaltwt(x, 30, 180);
        stand(x, 170, 180, 190, 200);
        wake20(x);
        due.is("NOTSET", x.word(0, 16), -5);
        stand(x, 170, 180, 200);
        wake20(x);
        due.is("NOTSET", x.word(0, 16), -5);
        stand(x, 170, 180);
        wake20(x);
        due.is("by tin it stays: W - 4", x.word(0, 16), -6);
        stand(x, 170, 180);
        due.is("by tin", x.timer(0, 0, 0), 40);
        due.is("another's", x.timer(0, 1, 0), 60);
    }

    private static void waitsByTaltwt(MeetingMachines x, int w, int time) {
        x.poke(0, w - 3, -2);
        x.poke(0, w - 4, -6);
        x.poke(0, w - 5, time);
        x.start(0, w, 0, 3);
        x.tick(1);
    }

    /** A sender comes to channel 60, where W 20 is WAITING; W 20 runs again and is OFF. */
    private static void wake20(MeetingMachines x) {
        x.poke(0, 16, -6);
        x.poke(0, 17, -3);
        x.poke(0, 19, 4);
        x.poke(0, 60, 40);
        x.start(0, 45, 1, 5);
        x.tick(4);
        due.is("READY", x.word(0, 17), -4);
        due.is("SCHEDULED", x.queue(0, 0, 0), 40);
        x.tick(1);
        due.is("it ran", x.word(0, 19), 5);
    }

    private static void stand(MeetingMachines x, int... times) {
        due.is("in TIMERS", x.timer(0, -1, 0), times.length);
        for (int i = 0; i < times.length; i++) {
            due.is("time", x.timer(0, i, 1), times[i]);
        }
    }

    /** "alt ENABLING comes to W - 3; talt, too, and NOTSET to W - 4": W 5 has these at 2 and 1. */
    private static void altAndTalt() {
        MeetingMachines x = fits(one("ajw -15; alt;", ""), 2);
        due.is("W - 3", x.word(0, 2), -2);
        due.is("alt leaves W - 4", x.word(0, 1), -1);
        x = fits(one("ajw -15; talt;", ""), 2);
        due.is("W - 3", x.word(0, 2), -2);
        due.is("W - 4", x.word(0, 1), -5);
        due.is("talt leaves W - 5", x.word(0, 0), -1);
    }

    /** "(A a guard, which is so if it isn't 0 ..)"; one that isn't so looks at no channel. */
    private static void guardsOfEnbc() {
        for (int guard : new int[] {1, -1, 2, FAR, LOW_FAR, 0}) {
            MeetingMachines x = Due.of("a: ldc 5; ldc 60; ldl 1; enbc; " + RUN);
            x.poke(0, 21, guard);
            x.tick(4);
            due.is("guard " + guard, x.word(0, 60), guard == 0 ? -1 : 40);
            has("enbc", x, guard, 5, 5);
        }
        for (int channel : new int[] {0, 1, -1, 96, 9999}) {
            has("not so", fits(one("ldc 5; ldc " + channel + "; ldc 0; enbc;", ""), 4), 0, 5, 5);
            halts(one("ldc 5; ldc " + channel + "; ldc 1; enbc;", ""), 4);
        }
        MeetingMachines x = fits(one("ldc 2; ldc 0; enbc;", ""), 3);
        due.is("not so: no ALT", x.link(0, 0, 6), -1);
    }

    /** "a channel of -1 is OWN; OWN stays; by another word READY comes to W - 3". */
    private static void channelsOfEnbc() {
        for (int word : new int[] {-1, 40, 41, 60, 0, -2, 9999}) {
            MeetingMachines x = fits(one("alt; ldc 60; ldc 1; enbc;", "word 0 60 " + word + ";"), 4);
            boolean isOther = word != -1 && word != 40;
            due.is("channel of " + word, x.word(0, 60), isOther ? word : 40);
            due.is("W - 3", x.word(0, 17), isOther ? -4 : -2);
        }
        due.is("place 4", fits(one("ldc 4; ldc 1; enbc;", ""), 3).word(0, 4), 40);
        due.is("place 95", fits(one("ldc 95; ldc 1; enbc;", ""), 3).word(0, 95), 40);
    }

    /** "enbs if A is so, READY comes to W - 3. enbt .. if so". */
    private static void guardsOfEnbsAndEnbt() {
        for (int guard : new int[] {1, -1, FAR, LOW_FAR, 0}) {
            MeetingMachines x = Due.of("a: alt; ldc 5; ldc 6; ldl 1; enbs; " + RUN);
            x.poke(0, 21, guard);
            x.tick(5);
            due.is("enbs", x.word(0, 17), guard == 0 ? -2 : -4);
            has("enbs", x, guard, 6, 5);
            x = Due.of("a: talt; ldc 5; ldc 6; ldl 1; enbt; " + RUN);
            x.poke(0, 21, guard);
            x.tick(5);
            due.is("enbt", x.word(0, 16), guard == 0 ? -5 : -6);
            due.is("time", x.word(0, 15), guard == 0 ? -1 : 6);
            has("enbt", x, guard, 5, 5);
        }
    }

    /** "at NOTSET SET comes to W - 4, B to W - 5; else, if what stands at W - 5 is AFTER B, B comes there". */
    private static void timesOfEnbt() {
        int[][] rows = {{-5, 10, 20, -6, 20}, {-6, 10, 20, -6, 10}, {-6, 10, 10, -6, 10}, {-6, 10, 9, -6, 9},
            {-1, 10, 9, -1, 9}, {-1, 10, 11, -1, 10}, {-6, LOW_FAR, FAR, -6, FAR}, {-6, FAR, LOW_FAR, -6, FAR},
            {-6, 0, LOW_FAR, -6, 0}, {-6, 0, LOW_FAR + 1, -6, LOW_FAR + 1}};
        for (int[] row : rows) {
            MeetingMachines x = Due.of("a: ldl 1; ldc 1; enbt; " + RUN);
            x.poke(0, 16, row[0]);
            x.poke(0, 15, row[1]);
            x.poke(0, 21, row[2]);
            x.tick(3);
            due.is("W - 4 of " + row[0] + " " + row[1] + " " + row[2], x.word(0, 16), row[3]);
            due.is("W - 5 of " + row[0] + " " + row[1] + " " + row[2], x.word(0, 15), row[4]);
        }
    }

    /** "altwt -1 comes to W; if W - 3 is not READY it is WAITING, OFF; CLEAR": whatever else it is. */
    private static void altwtByState() {
        for (int state : new int[] {-4, -2, -3, -1, -5, 0, 70}) {
            MeetingMachines x = fits(one(THREE + "altwt;", "word 0 20 5; word 0 17 " + state + ";"), 4);
            due.is("the word at W", x.word(0, 20), -1);
            due.is("W - 3 of " + state, x.word(0, 17), state == -4 ? -4 : -3);
            due.is("who runs", x.machine(0, 4), state == -4 ? 20 : -1);
            due.is("I at W - 1", x.word(0, 19), state == -4 ? 0 : 4);
            if (state == -4) {
                has("CLEAR", x, 0, 0, 0);
            }
        }
    }

    private static MeetingMachines taltwt(int state, int set, int time) {
        MeetingMachines x = Due.of("a: " + THREE + "taltwt; word 0 20 5; " + RUN);
        x.poke(0, 17, state);
        x.poke(0, 16, set);
        x.poke(0, 15, time);
        x.tick(4);
        due.is("the word at W", x.word(0, 20), -1);
        due.is("HALTED", x.machine(0, 7), 0);
        return x;
    }

    /** "if at SET CLOCK is AFTER the time at W - 5: READY comes to W - 3, CLOCK to W - 5": by CLOCK 3. */
    private static void taltwtByTime() {
        for (int time : new int[] {2, 0, -1, LOW_FAR + 4}) {
            for (int state : new int[] {-2, -4}) {
                MeetingMachines x = taltwt(state, -6, time);
                due.is("goes on by " + time, x.machine(0, 4), 20);
                due.is("READY", x.word(0, 17), -4);
                due.is("SET stays", x.word(0, 16), -6);
                due.is("CLOCK", x.word(0, 15), 3);
            }
        }
        for (int time : new int[] {3, 4, FAR, LOW_FAR, LOW_FAR + 3}) {
            MeetingMachines x = taltwt(-2, -6, time);
            due.is("OFF by " + time, x.machine(0, 4), -1);
            // CLOCK is 4 at the end of that TICK: who waits for 3 leaves TIMERS then
            due.is("in TIMERS", x.machine(0, 10), time == 3 ? 0 : 1);
            due.is("W - 3", x.word(0, 17), time == 3 ? -4 : -3);
            due.is("W - 4", x.word(0, 16), -6);
            due.is("W - 5", x.word(0, 15), time == 3 ? 4 : time);
            due.is("SCHEDULED", x.queue(0, 0, -1), time == 3 ? 1 : 0);
        }
    }

    /** "else, if W - 3 is READY, NOTSET comes to W - 4; else W - 3 is WAITING, at SET it is put into TIMERS". */
    private static void taltwtByState() {
        for (int set : new int[] {-6, -5, -1, 7}) {
            MeetingMachines x = taltwt(-4, set, 50);
            due.is("goes on", x.machine(0, 4), 20);
            due.is("READY", x.word(0, 17), -4);
            due.is("NOTSET by " + set, x.word(0, 16), -5);
            due.is("W - 5", x.word(0, 15), 50);
            for (int state : new int[] {-2, -3, -1, 0}) {
                x = taltwt(state, set, 50);
                due.is("OFF", x.machine(0, 4), -1);
                due.is("WAITING by " + state, x.word(0, 17), -3);
                due.is("W - 4 stays", x.word(0, 16), set);
                due.is("in TIMERS by " + set, x.machine(0, 10), set == -6 ? 1 : 0);
            }
        }
        // not at SET no time is looked at
        due.is("not at SET", taltwt(-2, -5, 0).machine(0, 4), -1);
    }

    /** "CLEAR" of who goes on by its time, by a guard. */
    private static void taltwtClears() {
        has("by its time", taltwt(-2, -6, 0), 0, 0, 0);
        has("by a guard", taltwt(-4, -5, 0), 0, 0, 0);
    }

    /** "disc .. if so: a channel of OWN is -1; one of -1 stays; by another word it is FIRED". */
    private static void channelsOfDisc() {
        for (int word : new int[] {-1, 40, 41, 60, 0, -2, 9999}) {
            for (int guard = -1; guard <= 1; guard++) {
                MeetingMachines x = fits(one("ldc 60; ldc " + guard + "; ldc 9; disc;", "word 0 60 " + word + ";"), 4);
                boolean isFired = guard != 0 && word != -1 && word != 40;
                due.is("channel of " + word, x.word(0, 60), guard != 0 && word == 40 ? -1 : word);
                due.is("the word at W", x.word(0, 20), isFired ? 9 : -1);
                has("disc", x, isFired ? 1 : 0, 0, 0);
            }
        }
        for (int channel : new int[] {0, 1, -1, 96, 9999}) {
            has("not so", fits(one("ldc " + channel + "; ldc 0; ldc 9; disc;", ""), 4), 0, 0, 0);
            halts(one("ldc " + channel + "; ldc 1; ldc 9; disc;", ""), 4);
        }
        has("place 95", fits(one("ldc 95; ldc 1; ldc 9; disc;", "word 0 95 7;"), 4), 1, 0, 0);
        has("place 4", fits(one("ldc 4; ldc 1; ldc 9; disc;", "word 0 4 7;"), 4), 1, 0, 0);
    }

    /** "FIRED while the word at W is -1: A comes there, A is 1; else A is 0." */
    private static void firedWhileNobodyIs() {
        for (int word : new int[] {-1, 0, 9, -2, -9999}) {
            for (String op : new String[] {"ldc 5; ldc 1; ldc 9; diss;", "ldc 60; ldc 1; ldc 9; disc;",
                "ldc 10; ldc 1; ldc 9; dist;"}) {
                MeetingMachines x = fits(one(op, "word 0 60 7; word 0 16 -6; word 0 15 11; word 0 20 " + word + ";"), 4);
                due.is("the word at W of " + word, x.word(0, 20), word == -1 ? 9 : word);
                due.is("A by " + op, x.machine(0, 0), word == -1 ? 1 : 0);
            }
        }
        MeetingMachines x = fits(one("ldc 5; ldc 1; ldc -1; diss;", ""), 4);
        due.is("FIRED with -1", x.machine(0, 0), 1);
        due.is("the word at W", x.word(0, 20), -1);
        // the channel is the word at W itself: of OWN it is -1 and nobody is FIRED, of another it isn't -1
        has("OWN at W", fits(one("ldc 20; ldc 1; ldc 9; disc;", "word 0 20 40;"), 4), 0, 0, 0);
        has("another at W", fits(one("ldc 20; ldc 1; ldc 9; disc;", "word 0 20 60;"), 4), 0, 0, 0);
    }

    /** "dist .. FIRED if so, at SET, and W - 5 is AFTER C." */
    private static void timesOfDist() {
        int[][] rows = {{1, -6, 11, 10, 1}, {1, -6, 10, 10, 0}, {1, -6, 9, 10, 0}, {0, -6, 11, 10, 0},
            {-1, -6, 11, 10, 1}, {1, -5, 11, 10, 0}, {1, -1, 11, 10, 0}, {1, -6, LOW_FAR, FAR, 1},
            {1, -6, FAR, LOW_FAR, 0}, {1, -6, 0, LOW_FAR, 0}, {1, -6, 0, LOW_FAR + 1, 1}};
        for (int[] row : rows) {
            MeetingMachines x = Due.of("a: ldl 1; ldl 2; ldc 9; dist; " + RUN);
            x.poke(0, 22, row[0]);
            x.poke(0, 16, row[1]);
            x.poke(0, 15, row[2]);
            x.poke(0, 21, row[3]);
            x.tick(4);
            String what = "dist of " + row[0] + " " + row[1] + " " + row[2] + " " + row[3];
            has(what, x, row[4], 0, 0);
            due.is(what, x.word(0, 20), row[4] == 1 ? 9 : -1);
            due.is("W - 4 stays", x.word(0, 16), row[1]);
            due.is("W - 5 stays", x.word(0, 15), row[2]);
        }
    }

    /** "Then diss: B is C; disc, dist: B, C are 0", FIRED or not. */
    private static void whatDiscDissDistLeave() {
        has("diss", fits(one("ldc 7; ldc 1; ldc 9; diss;", ""), 4), 1, 7, 7);
        has("diss", fits(one("ldc 7; ldc 0; ldc 9; diss;", ""), 4), 0, 7, 7);
        has("diss", fits(one("ldc 7; ldc -1; ldc 9; diss;", ""), 4), 1, 7, 7);
        has("disc", fits(one("ldc 60; ldc 1; ldc 9; disc;", "word 0 60 5;"), 4), 1, 0, 0);
        has("disc", fits(one("ldc 60; ldc 1; ldc 9; disc;", ""), 4), 0, 0, 0);
        has("dist", fits(one("ldc 60; ldc 1; ldc 9; dist;", "word 0 16 -6; word 0 15 61;"), 4), 1, 0, 0);
        has("dist", fits(one("ldc 60; ldc 1; ldc 9; dist;", ""), 4), 0, 0, 0);
    }

    /** "out at places 0, 1, in .. at 2, 3: LINK 0, 1; out at 2, 3, in .. at 0, 1: HALTED." */
    private static void placesOfLinks() {
        for (int place = 0; place < 4; place++) {
            String out = one("ldc 70; ldc " + place + "; ldc 2; out;", "");
            String in = one("ldc 70; ldc " + place + "; ldc 2; in;", "");
            MeetingMachines x = fits(place < 2 ? out : in, 4);
            halts(place < 2 ? in : out, 4);
            int k = place % 2;
            int what = place < 2 ? 0 : 2;
            due.is("OWN", x.link(0, k, what), 40);
            due.is("words", x.link(0, k, what + 1), 2);
            due.is("nobody on the other", x.link(0, 1 - k, what), -1);
            due.is("nobody there else", x.link(0, k, 2 - what), -1);
            due.is("OFF", x.machine(0, 4), -1);
            due.is("I", x.word(0, 19), 4);
            due.is("the place's word stays", x.word(0, place), -1);
            due.is("W - 3 stays", x.word(0, 17), -1);
        }
    }

    /** "(HALTED if one does there already)". */
    private static void linksThatAreUsed() {
        for (int place = 0; place < 4; place++) {
            String op = place < 2 ? "out" : "in";
            String text = "a: ldc 70; ldc " + place + "; ldc 2; " + op + "; run 0 20 0 a; run 0 30 0 a;";
            halts(text, 8);
            MeetingMachines x = after(8, text);
            due.is("who was there", x.link(0, place % 2, place < 2 ? 0 : 2), 40);
            due.is("who HALTED", x.machine(0, 4), 30);
            due.is("its A", x.machine(0, 0), 2);
        }
        MeetingMachines x = Due.of("join 0 0 0 0; a: ldc 70; ldc 0; ldc 1; out; stopp; b: ldc 80; ldc 2; ldc 1; in; stopp;"
                + "run 0 20 0 a; run 0 30 0 b; run 0 40 0 a; run 0 50 0 b;");
        x.tick(40);
        due.is("one after the other", x.machine(0, 7), 0);
        due.is("MEETINGS", x.count(5), 2);
    }

    /** The bounds of out and in hold on LINKS, too. */
    private static void boundsOnLinks() {
        for (int place = 0; place < 4; place++) {
            String tail = "; " + (place < 2 ? "out" : "in") + ";";
            String at = "; ldc " + place + "; ldc ";
            int left = place < 2 ? 1 : 3;
            due.is("one word", fits(one("ldc 0" + at + 1 + tail, ""), 4).link(0, place % 2, left), 1);
            due.is("eight words", fits(one("ldc 88" + at + 8 + tail, ""), 4).link(0, place % 2, left), 8);
            halts(one("ldc 70" + at + 0 + tail, ""), 4);
            halts(one("ldc 70" + at + 9 + tail, ""), 4);
            halts(one("ldc 89" + at + 8 + tail, ""), 4);
            halts(one("ldc -1" + at + 1 + tail, ""), 4);
        }
    }

    /** "enbc, disc (if so) at 2, 3 ..; those at 0, 1: HALTED." */
    private static void guardsOfLinks() {
        for (int place = 2; place < 4; place++) {
            MeetingMachines x = fits(one("alt; ldc 5; ldc " + place + "; ldc 1; enbc;", ""), 5);
            due.is("ALT", x.link(0, place - 2, 6), 40);
            due.is("none of the other", x.link(0, 3 - place, 6), -1);
            due.is("ENABLING", x.word(0, 17), -2);
            due.is("the place's word", x.word(0, place), -1);
            has("enbc", x, 1, 5, 5);
            x = fits(one("alt; ldc " + place + "; ldc 0; enbc;", ""), 4);
            due.is("not so", x.link(0, place - 2, 6), -1);
            x = fits(one("ldc " + place + "; ldc 1; enbc; ldc " + place + "; ldc 0; ldc 9; disc;", ""), 7);
            due.is("disc that isn't so", x.link(0, place - 2, 6), 40);
            x = fits(one("ldc " + place + "; ldc 1; enbc; ldc " + place + "; ldc 1; ldc 9; disc;", ""), 7);
            due.is("disc", x.link(0, place - 2, 6), -1);
            has("disc", x, 0, 0, 0);
        }
    }

    /** "enbc: FULL: READY comes to W - 3; else OWN is its ALT. disc: it has no ALT; FULL: FIRED." */
    private static void altOfALink() {
        String send = "join 1 0 0 0; s: ldc 70; ldc 0; ldc 1; out; run 1 30 0 s;";
        MeetingMachines x = fits(one("ldc 1; ldc 1; ldc 1; alt; ldc 2; ldc 1; enbc; ldc 2; ldc 1; ldc 9; disc;", send), 7);
        due.is("FULL", x.link(0, 0, 4), 1);
        due.is("FULL: READY", x.word(0, 17), -4);
        due.is("FULL: no ALT", x.link(0, 0, 6), -1);
        x.tick(4);
        due.is("FULL: FIRED", x.word(0, 20), 9);
        due.is("FULL still", x.link(0, 0, 4), 1);
        // another's ALT gives way to OWN; disc by anybody leaves none
        x = after(8, "a: ldc 2; ldc 1; enbc; stopp; run 0 20 0 a; run 0 30 1 a;");
        due.is("the later one's", x.link(0, 0, 6), 61);
        x = after(8, "a: ldc 2; ldc 1; enbc; stopp; d: ldc 2; ldc 1; ldc 9; disc; run 0 20 0 a; run 0 30 1 d;");
        due.is("by another's disc", x.link(0, 0, 6), -1);
    }

    /** "if there is an ALT v: what stands at its u - 3, if ENABLING, is READY, if WAITING, too, and v is AWAKE". */
    private static void altByState() {
        for (int state : new int[] {-2, -3, -4, -1, 70}) {
            MeetingMachines x = Due.of("join 1 0 0 0; s: ldc 70; ldc 0; ldc 1; out; stopp;"
                    + "a: ldc 2; ldc 1; enbc; stopp; run 0 20 1 a;");
            x.tick(4);
            due.is("ALT", x.link(0, 0, 6), 41);
            x.poke(0, 17, state);
            x.start(1, 30, 0, 0);
            x.tick(4);
            boolean isTold = state == -2 || state == -3;
            due.is("W - 3 of " + state, x.word(0, 17), isTold ? -4 : state);
            due.is("SCHEDULED", x.queue(0, 1, -1), state == -3 ? 1 : 0);
            due.is("no ALT then", x.link(0, 0, 6), -1);
            due.is("FULL", x.link(0, 0, 4), 1);
        }
    }

    /** "A LINK that receives has a BUFFER of one word": the next goes in when it isn't FULL. */
    private static void bufferOfOneWord() {
        MeetingMachines x = Due.of("join 0 0 1 0; word 0 70 7; word 0 71 8; s: ldc 70; ldc 0; ldc 2; out; stopp;"
                + "r: ldc 80; ldc 2; ldc 1; in; stopp; run 0 20 0 s;");
        due.is("not FULL", x.link(1, 0, 4), 0);
        due.is("0 in it", x.link(1, 0, 5), 0);
        x.tick(4);
        due.is("FULL", x.link(1, 0, 4), 1);
        due.is("the word", x.link(1, 0, 5), 7);
        due.is("left", x.link(0, 0, 1), 1);
        x.tick(20);
        due.is("still the first", x.link(1, 0, 5), 7);
        due.is("still left", x.link(0, 0, 1), 1);
        x.poke(0, 71, 9);
        x.start(1, 30, 0, 5);
        x.tick(4);
        due.is("the first came", x.word(1, 80), 7);
        due.is("not FULL", x.link(1, 0, 4), 0);
        due.is("0 in it", x.link(1, 0, 5), 0);
        x.tick(1);
        due.is("the next, as it stands there then", x.link(1, 0, 5), 9);
        due.is("none left", x.link(0, 0, 1), 0);
        due.is("who sends waits still", x.link(0, 0, 0), 40);
        due.is("no MEETING", x.count(5), 0);
    }

    /** No JOIN: nothing goes. */
    private static void joinToldNowhere() {
        MeetingMachines x = after(50, "join 1 0 1 0; s: ldc 70; ldc 0; ldc 1; out; stopp; r: ldc 80; ldc 2; ldc 1; in;"
                + "run 0 20 0 s; run 0 30 0 r;");
        due.is("left to send", x.link(0, 0, 1), 1);
        due.is("left to receive", x.link(0, 0, 3), 1);
        due.yes("STUCK", x.stuck());
    }

    /** "if that was the last to receive, who receives is SCHEDULED ..; if it was the last to send, who sends". */
    private static void lastToReceiveLastToSend() {
        for (int sends = 1; sends <= 3; sends++) {
            for (int takes = 1; takes <= 3; takes++) {
                MeetingMachines x = after(14, "join 0 1 1 1; s: ldc 70; ldc 1; ldc " + sends + "; out; ldc 9; stopp;"
                        + "r: ldc 80; ldc 3; ldc " + takes + "; in; ldc 9; stopp; run 0 20 0 s; run 1 30 1 r;");
                String what = sends + " sent, " + takes + " taken: ";
                due.is(what + "who sends", x.link(0, 1, 0), sends <= takes ? -1 : 40);
                due.is(what + "left to send", x.link(0, 1, 1), Math.max(0, sends - takes - 1));
                due.is(what + "who receives", x.link(1, 1, 2), takes <= sends ? -1 : 61);
                due.is(what + "left to receive", x.link(1, 1, 3), Math.max(0, takes - sends));
                due.is(what + "FULL", x.link(1, 1, 4), sends > takes ? 1 : 0);
                due.is(what + "MEETINGS", x.count(5), sends <= takes ? 1 : 0);
                due.is(what + "I of who sent", x.word(0, 19), sends <= takes ? 6 : 4);
                due.is(what + "I of who received", x.word(1, 29), takes <= sends ? 12 : 10);
            }
        }
    }

    /** "the same machine may be both": who received is SCHEDULED ahead of who sent. */
    private static void joinOfOneMachine() {
        MeetingMachines x = Due.of("join 0 0 0 0; word 0 70 7; s: ldc 70; ldc 0; ldc 1; out; stopp;"
                + "r: ldc 80; ldc 2; ldc 1; in; stopp; run 0 20 0 s; run 0 30 0 r;");
        due.is("a MEETING", x.tick(8), 1);
        due.is("the word", x.word(0, 80), 7);
        due.is("who received", x.queue(0, 0, 0), 60);
        due.is("who sent", x.queue(0, 0, 1), 40);
        due.is("both", x.queue(0, 0, -1), 2);
    }

    /** "Then the JOINS, as told": so stand their MEETINGS of one TICK. */
    private static void joinsAsTold() {
        String code = "s: ldc 70; ldc 0; ldc 1; out; stopp; r: ldc 80; ldc 2; ldc 1; in; stopp;"
                + "run 0 20 0 s; run 1 20 0 s; run 0 30 0 r; run 1 30 0 r;";
        String[] joins = {"join 0 0 1 0;", "join 1 0 0 0;"};
        for (int first = 0; first < 2; first++) {
            MeetingMachines x = Due.of(joins[first] + joins[1 - first] + code);
            due.is("MEETINGS of one TICK", x.tick(8), 2);
            due.is("the first JOIN's", x.meeting(0, 1), first);
            due.is("the second JOIN's", x.meeting(1, 1), 1 - first);
            due.is("in one TICK", x.meeting(0, 0), x.meeting(1, 0));
        }
    }

    /** "A JOIN (neither of its machines HALTED)", one that HALTS in this TICK neither. */
    private static void joinsOfHalted() {
        String text = "join 0 0 1 0; s: ldc 70; ldc 0; ldc 1; out; h: ldc 1; halt; e: ldc 1; dup; dup; halt;"
                + "run 0 20 0 s;";
        MeetingMachines x = after(4, text + "run 1 20 0 e;");
        due.is("HALTED in the TICK of out", x.machine(1, 7), 1);
        due.is("no word goes", x.link(0, 0, 1), 1);
        due.is("not FULL", x.link(1, 0, 4), 0);
        x = after(4, text + "run 1 20 0 s;");
        due.is("the word goes", x.link(1, 0, 4), 1);
        // the sender's machine HALTS when the BUFFER is FULL: who receives later has nothing
        x = Due.of(text + "run 0 30 0 h; r: ldc 80; ldc 2; ldc 1; in;");
        x.tick(6);
        due.is("HALTED", x.machine(0, 7), 1);
        due.is("FULL", x.link(1, 0, 4), 1);
        x.start(1, 20, 0, 10);
        x.tick(20);
        due.is("FULL still", x.link(1, 0, 4), 1);
        due.is("who receives", x.link(1, 0, 2), 40);
        due.is("no MEETING", x.count(5), 0);
        due.yes("STUCK", x.stuck());
    }

    /** "MEETINGS: the latest 30 are kept": the thirtieth, the thirty-first. */
    private static void thirtyMeetings() {
        MeetingMachines x = Due.of("s: ldlp 1; ldc 60; ldc 1; out; j s; r: ldlp 1; ldc 60; ldc 1; in; j r;"
                + "run 0 20 0 s; run 0 30 0 r;");
        due.is("none", x.meeting(0, 0), -1);
        int met = 0;
        for (int t = 1; t <= 330 && met < 32; t++) {
            if (x.tick(1) == 0) {
                continue;
            }
            met++;
            if (met == 1) {
                due.is("the first", x.meeting(0, 0), 8);
                due.is("no second", x.meeting(1, 0), -1);
            }
            if (met == 29) {
                due.is("29", x.meeting(28, 0), t);
                due.is("no thirtieth", x.meeting(29, 0), -1);
            }
            if (met >= 30) {
                due.is("the latest", x.meeting(29, 0), t);
                due.is("no thirty-first", x.meeting(30, 0), -1);
                due.yes("the eldest", met == 30 ? x.meeting(0, 0) == 8 : x.meeting(0, 0) > 8);
            }
            due.is("all there were", x.count(5), met);
        }
        due.is("MEETINGS", met, 32);
    }

    /** "who sent, who received (it at last), how many words (.. on a LINK who sent)". */
    private static void meetingOfALink() {
        MeetingMachines x = after(40, "join 1 1 0 0; s: ldc 70; ldc 1; ldc 8; out; stopp;"
                + "r: ldc 80; ldc 2; ldc 7; in; stopp; l: ldc 30; tin; ldc 80; ldc 2; ldc 3; in; stopp;"
                + "run 1 20 1 s; run 0 30 0 r; run 0 40 1 l;");
        due.is("MEETINGS", x.count(5), 1);
        // l leaves TIMERS at the end of TICK 31, is TAKEN in 32 and does in in 35
        int[] expected = {35, 1, 1, 41, 81, 8, -1};
        for (int what = 0; what < expected.length; what++) {
            due.is("meeting(0, " + what + ")", x.meeting(0, what), expected[what]);
        }
        due.is("no other", x.meeting(1, 0), -1);
        due.is("left to receive", x.link(0, 0, 3), 2);
        // on a channel he who came later told: three taken of one that was told
        x = after(8, "s: ldc 70; ldc 60; ldc 1; out; stopp; r: ldc 80; ldc 60; ldc 3; in; stopp; run 0 20 0 s; run 0 30 0 r;");
        due.is("how many words", x.meeting(0, 5), 3);
    }

    /** "no machine that isn't HALTED has anybody who runs, is INTERRUPTED, FRONT of a QUEUE, in TIMERS". */
    private static void stuckByMachines() {
        for (int m = 0; m < 2; m++) {
            MeetingMachines x = Due.of("a: adc 1; stopp; t: ldc 9; tin; stopp; h: halt;");
            due.yes("nobody", x.stuck());
            x.start(m, 20, 0, 0);
            due.no("FRONT of HIGH", x.stuck());
            x.tick(1);
            due.no("who runs", x.stuck());
            x.tick(1);
            due.yes("nobody", x.stuck());
            x.start(m, 20, 1, 0);
            due.no("FRONT of LOW", x.stuck());
            x.tick(1);
            x.start(m, 30, 0, 1);
            x.tick(1);
            due.is("INTERRUPTED", x.machine(m, 9), 41);
            due.is("nobody runs", x.machine(m, 4), -1);
            due.no("who is INTERRUPTED", x.stuck());
            x.tick(1);
            due.yes("nobody", x.stuck());
            x.start(m, 20, 0, 2);
            x.tick(2);
            due.no("in TIMERS", x.stuck());
            x.start(m, 40, 0, 5);
            x.tick(1);
            due.is("HALTED", x.machine(m, 7), 1);
            due.yes("HALTED with one in TIMERS", x.stuck());
            x.start(1 - m, 20, 0, 0);
            due.no("the other one", x.stuck());
        }
    }

    /** "and no JOIN would move a word". */
    private static void stuckByJoins() {
        String text = "join 0 0 1 0; s: ldc 70; ldc 0; ldc 2; out; stopp; r: ldc 80; ldc 2; ldc 2; in; stopp;";
        MeetingMachines x = Due.of(text);
        due.yes("nobody sends", x.stuck());
        x.start(1, 30, 0, 5);
        x.tick(4);
        due.yes("one receives", x.stuck());
        x.start(0, 20, 0, 0);
        x.tick(4);
        due.is("one word went", x.link(0, 0, 1), 1);
        due.no("the next would go", x.stuck());
        x = Due.of(text);
        x.start(0, 20, 0, 0);
        x.tick(10);
        due.is("FULL", x.link(1, 0, 4), 1);
        due.is("words left", x.link(0, 0, 1), 1);
        due.yes("FULL, and nobody receives", x.stuck());
    }
}
