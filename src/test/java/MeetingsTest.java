/** Channels, alternatives, TIMERS, LINKS, JOINS and MEETINGS. */
public final class MeetingsTest {
    private static final Due due = new Due();

    public static void main(String[] args) {
        channels();
        boundsOfInAndOut();
        wordsGoOneByOne();
        timers();
        twelveTimers();
        timersMove();
        alternativeOfSkips();
        alternativeOfChannels();
        senderMeetsAlternative();
        alternativeOfTimes();
        links();
        firstChannels();
        boundsOfLinks();
        linkOfUnlikeLengths();
        alternativeOfLinks();
        joinsOfHaltedMachines();
        meetingsKept();
        meetingsComeBack();
        due.end();
    }

    private static void row(MeetingMachines x, int i, int... expected) {
        for (int what = 0; what < expected.length; what++) {
            due.is("meeting(" + i + ", " + what + ")", x.meeting(i, what), expected[what]);
        }
    }

    private static void halts(String text, int ticks) {
        MeetingMachines x = Due.of(text);
        x.tick(ticks - 1);
        due.is(text + " is not HALTED yet", x.machine(0, 7), 0);
        x.tick(1);
        due.is(text + " HALTED", x.machine(0, 7), 1);
    }

    private static void channels() {
        // the receiver waits first; three words; the sender's number counts
        MeetingMachines x = Due.of("word 0 40 7; word 0 41 8; word 0 42 9; r: ldc 70; ldc 60; ldc 1; in; stopp;"
                + "s: ldc 40; ldc 60; ldc 3; out; ldc 4; stopp; run 0 20 1 r; run 0 30 0 s;");
        x.slice(1);
        x.tick(6);
        due.is("the HIGH one waits", x.word(0, 60), 60);
        due.is("its place", x.word(0, 27), 40);
        due.is("its I", x.word(0, 29), 9);
        due.is("meetings of the next two", x.tick(2), 1);
        due.is("the first word", x.word(0, 70), 7);
        due.is("no second word", x.word(0, 71), -1);
        due.is("channel", x.word(0, 60), -1);
        due.is("A is 0", x.machine(0, 0), 0);
        due.is("QUEUE", x.queue(0, 0, 0), 60);
        row(x, 0, 8, 0, 60, 60, 41, 1);
        x = Due.of("word 0 40 7; word 0 41 8; word 0 42 9; r: ldc 70; ldc 60; ldc 1; in; stopp;"
                + "s: ldc 40; ldc 60; ldc 3; out; ldc 4; stopp; run 0 20 0 r; run 0 30 0 s;");
        due.is("meetings", x.tick(8), 1);
        due.is("words", x.word(0, 72), 9);
        row(x, 0, 8, 0, 60, 60, 40, 3);
        due.is("who came later goes on", x.machine(0, 4), 30);
    }

    private static void boundsOfInAndOut() {
        String run = " run 0 20 0 a;";
        halts("a: ldc 40; ldc 60; ldc 0; out;" + run, 4);
        halts("a: ldc 40; ldc 60; ldc 9; in;" + run, 4);
        halts("a: ldc 40; ldc 96; ldc 1; out;" + run, 4);
        halts("a: ldc 40; ldc -1; ldc 1; in;" + run, 4);
        halts("a: ldc 94; ldc 60; ldc 3; out;" + run, 4);
        halts("a: ldc -1; ldc 60; ldc 1; in;" + run, 4);
        halts("word 0 60 9; a: ldc 40; ldc 60; ldc 1; out;" + run, 4);
        halts("word 0 60 192; a: ldc 40; ldc 60; ldc 1; in;" + run, 4);
        halts("word 0 60 80; word 0 37 96; a: ldc 50; ldc 60; ldc 1; in;" + run, 4);
        halts("word 0 60 80; word 0 37 94; a: ldc 50; ldc 60; ldc 3; out;" + run, 4);
        // in looks for no STATE: ENABLING is no place
        halts("word 0 60 80; word 0 37 -2; a: ldc 50; ldc 60; ldc 1; in;" + run, 4);
        MeetingMachines x = Due.of("a: ldc 88; ldc 95; ldc 8; out;" + run);
        x.tick(4);
        due.is("eight words up to 95", x.word(0, 95), 40);
        x = Due.of("word 0 60 190; word 0 92 93; a: ldc 50; ldc 60; ldc 3; out;" + run);
        x.tick(4);
        due.is("the words come up to 95", x.machine(0, 7), 0);
        due.is("W 95 is SCHEDULED", x.queue(0, 0, 0), 190);
    }

    private static void wordsGoOneByOne() {
        String words = "word 0 70 1; word 0 71 2; word 0 72 3; word 0 60 80;";
        MeetingMachines x = Due.of(words + "word 0 37 71; a: ldc 70; ldc 60; ldc 3; out; run 0 20 0 a;");
        x.tick(4);
        for (int place = 70; place <= 73; place++) {
            due.is("out over itself: " + place, x.word(0, place), 1);
        }
        x = Due.of(words + "word 0 37 71; a: ldc 70; ldc 60; ldc 3; in; run 0 20 0 a;");
        x.tick(4);
        due.is("in over itself: 70", x.word(0, 70), 2);
        due.is("in over itself: 71", x.word(0, 71), 3);
        due.is("in over itself: 72", x.word(0, 72), -1);
    }

    private static void timer(MeetingMachines x, int i, int process, int time) {
        due.is("timer(" + i + ", 0)", x.timer(0, i, 0), process);
        due.is("timer(" + i + ", 1)", x.timer(0, i, 1), time);
    }

    private static void timers() {
        MeetingMachines x = Due.of("a: ldl 1; tin; ldc 3; stopp; word 0 21 50; word 0 31 40; word 0 41 50; word 0 51 45;"
                + "run 0 20 1 a; run 0 30 1 a; run 0 40 0 a; run 0 50 0 a;");
        x.tick(8);
        due.is("how many", x.timer(0, -1, 0), 4);
        timer(x, 0, 100, 45);
        timer(x, 1, 80, 50);
        timer(x, 2, 61, 40);
        timer(x, 3, 41, 50);
        due.is("no fifth", x.timer(0, 4, 0), -1);
        x.tick(32);
        due.is("at 40", x.timer(0, -1, 0), 4);
        x.tick(1);
        due.is("at 41", x.timer(0, -1, 0), 3);
        due.is("QUEUE at 41", x.queue(0, 1, 0), 61);
        x.tick(9);
        due.is("at 50", x.timer(0, -1, 0), 2);
        x.tick(1);
        due.is("at 51", x.timer(0, -1, 0), 0);
        due.is("HIGH at 51", x.queue(0, 0, 0), 80);
        due.is("LOW at 51", x.queue(0, 1, 0), 41);
        // W may be odd
        x = Due.of("a: ldl 1; tin; word 0 22 50; word 0 32 45; word 0 42 48; word 0 52 47;"
                + "run 0 21 0 a; run 0 31 0 a; run 0 41 1 a; run 0 51 1 a;");
        x.tick(8);
        timer(x, 0, 62, 45);
        timer(x, 1, 42, 50);
        timer(x, 2, 103, 47);
        timer(x, 3, 83, 48);
        // like times: who came first stands first
        x = Due.of("a: ldc 9; tin; run 0 20 0 a; run 0 30 0 a;");
        x.tick(4);
        timer(x, 0, 40, 9);
        timer(x, 1, 60, 9);
        // CLOCK that is AFTER the time: it goes on
        x = Due.of("a: ldc 5; ldc 6; ldc 2; tin; run 0 20 0 a;");
        x.tick(4);
        due.is("it runs", x.machine(0, 4), 20);
        due.is("B is 0", x.machine(0, 1), 0);
        x = Due.of("a: ldc 5; ldc 6; ldc 3; tin; run 0 20 0 a;");
        x.tick(4);
        due.is("it leaves in that TICK", x.queue(0, 0, 0), 40);
        // far ahead wraps: it is AFTER now
        x = Due.of("a: ldc -1; tin; b: ldc 1; dup; stopp; run 0 20 0 a;");
        x.tick(2);
        due.is("0 is AFTER -1", x.machine(0, 3), 2);
    }

    private static void twelveTimers() {
        StringBuilder text = new StringBuilder("a: ldc 900; tin; halt;");
        for (int k = 0; k < 12; k++) {
            text.append("run 0 ").append(5 + 7 * k).append(" ").append(k % 2).append(" a;");
        }
        MeetingMachines x = Due.of(text.toString());
        x.tick(24);
        due.is("twelve", x.machine(0, 10), 12);
        x.start(0, 93, 1, 0);
        x.tick(2);
        due.is("HALTED by one too many", x.machine(0, 7), 1);
        due.is("still twelve", x.machine(0, 10), 12);
        x.undo();
        x.undo();
        due.is("not HALTED", x.machine(0, 7), 0);
        x = Due.of(text + "b: talt; ldc 900; ldc 1; enbt; taltwt; word 0 94 77;");
        x.tick(24);
        x.start(0, 94, 1, 3);
        x.tick(5);
        due.is("HALTED by taltwt", x.machine(0, 7), 1);
        due.is("the word at W is as ahead", x.word(0, 94), 77);
        due.is("so is the one at W - 3", x.word(0, 91), -2);
        x.undo();
        x.poke(0, 60, 1);
        x.tick(4);
        x.poke(0, 90, 5);
        x.tick(1);
        due.is("not at SET: no TIMERS", x.machine(0, 7), 0);
        due.is("WAITING", x.word(0, 91), -3);
    }

    private static void timersMove() {
        // taltwt and tin in one row: each keeps how it came, wherever it stands
        String text = "a: ldl 1; tin; stopp; b: talt; ldl 1; ldc 1; enbt; taltwt; stopp;"
                + "word 0 21 70; word 0 31 60; word 0 41 50; word 0 51 40; word 0 61 45;"
                + "run 0 20 0 b; run 0 30 0 a; run 0 40 0 b; run 0 50 0 a; run 0 60 0 b;";
        MeetingMachines x = Due.of(text);
        x.tick(30);
        due.is("five", x.machine(0, 10), 5);
        for (int i = 0; i < 5; i++) {
            timer(x, i, new int[] {100, 120, 80, 60, 40}[i], new int[] {40, 45, 50, 60, 70}[i]);
        }
        x.poke(0, 56, 99);
        x.poke(0, 36, 98);
        x.keep(0);
        for (int again = 0; again < 2; again++) {
            x.tick(60);
            due.is("by tin: W - 3", x.word(0, 47), -1);
            due.is("by tin: W - 4", x.word(0, 46), -1);
            due.is("by tin: W - 3", x.word(0, 27), -1);
            due.is("by taltwt: W - 3", x.word(0, 57), -4);
            due.is("by taltwt: W - 4", x.word(0, 56), -6);
            due.is("by taltwt: W - 5", x.word(0, 55), 46);
            due.is("by taltwt: W - 4", x.word(0, 36), -6);
            due.is("by taltwt: W - 5", x.word(0, 35), 51);
            due.is("by taltwt: W - 3", x.word(0, 17), -4);
            due.is("by taltwt: W - 5", x.word(0, 15), 71);
            x.back(0);
        }
    }

    private static void alternativeOfSkips() {
        MeetingMachines x = Due.of("a: alt; ldc 6; ldc 0; enbs; altwt; run 0 20 0 a;");
        x.tick(1);
        due.is("ENABLING", x.word(0, 17), -2);
        x.tick(3);
        due.is("enbs of 0", x.word(0, 17), -2);
        due.is("enbs leaves B", x.machine(0, 1), 6);
        x.tick(1);
        due.is("WAITING", x.word(0, 17), -3);
        due.is("the word at W", x.word(0, 20), -1);
        due.is("nobody runs", x.machine(0, 4), -1);
        x = Due.of("word 0 20 5; a: alt; ldc 6; ldc 3; enbs; altwt;"
                + "ldc 9; ldc 0; ldc 77; diss; ldc 1; ldc 11; diss; ldc 1; ldc 8; diss; altend; run 0 20 0 a;");
        x.tick(4);
        due.is("READY", x.word(0, 17), -4);
        x.tick(1);
        due.is("altwt goes on", x.machine(0, 4), 20);
        due.is("A is 0", x.machine(0, 0), 0);
        due.is("the word at W", x.word(0, 20), -1);
        x.tick(4);
        due.is("not FIRED", x.machine(0, 0), 0);
        due.is("B is C", x.machine(0, 1), 9);
        x.tick(3);
        due.is("FIRED", x.machine(0, 0), 1);
        due.is("at W", x.word(0, 20), 11);
        x.tick(3);
        due.is("the second is not", x.machine(0, 0), 0);
        due.is("at W", x.word(0, 20), 11);
        x.tick(1);
        due.is("I by altend", x.machine(0, 3), 11);
    }

    private static void alternativeOfChannels() {
        String run = "run 0 20 0 a;";
        MeetingMachines x = Due.of("a: alt; ldc 7; ldc 60; ldc 2; enbc;" + run);
        x.tick(5);
        due.is("channel", x.word(0, 60), 40);
        due.is("guard stays", x.machine(0, 0), 2);
        due.is("B is C", x.machine(0, 1), 7);
        due.is("ENABLING", x.word(0, 17), -2);
        x = Due.of("word 0 60 40; a: alt; ldc 60; ldc 1; enbc;" + run);
        x.tick(4);
        due.is("OWN stays", x.word(0, 60), 40);
        due.is("ENABLING", x.word(0, 17), -2);
        x = Due.of("word 0 60 5; a: alt; ldc 60; ldc 1; enbc;" + run);
        x.tick(4);
        due.is("another stays", x.word(0, 60), 5);
        due.is("READY", x.word(0, 17), -4);
        x = Due.of("a: alt; ldc 60; ldc 0; enbc; ldc 99; ldc 0; enbc;" + run);
        x.tick(7);
        due.is("not so", x.word(0, 60), -1);
        due.is("not so: no place is looked at", x.machine(0, 7), 0);
        halts("a: alt; ldc 96; ldc 1; enbc;" + run, 4);
        halts("a: alt; ldc -1; ldc 1; enbc;" + run, 4);
        halts("a: alt; ldc 1; ldc 1; enbc;" + run, 4);
        halts("a: ldc 96; ldc 1; ldc 5; disc;" + run, 4);
        halts("a: ldc 0; ldc 1; ldc 5; disc;" + run, 4);
        x = Due.of("word 0 60 40; a: ldc 60; ldc 1; ldc 5; disc;" + run);
        x.tick(4);
        due.is("disc of OWN", x.word(0, 60), -1);
        due.is("not FIRED", x.machine(0, 0), 0);
        due.is("B is 0", x.machine(0, 1), 0);
        x = Due.of("word 0 60 60; a: ldc 60; ldc 1; ldc 5; disc;" + run);
        x.tick(4);
        due.is("disc of another", x.word(0, 60), 60);
        due.is("FIRED", x.machine(0, 0), 1);
        due.is("C is 0", x.machine(0, 2), 0);
        due.is("at W", x.word(0, 20), 5);
        x = Due.of("word 0 60 60; a: ldc 60; ldc 0; ldc 5; disc; ldc 99; ldc 0; ldc 5; disc;" + run);
        x.tick(8);
        due.is("not so", x.word(0, 20), -1);
        due.is("not so: no place is looked at", x.machine(0, 7), 0);
    }

    private static void senderMeetsAlternative() {
        String sender = "a: ldc 70; ldc 60; ldc 1; out; run 0 20 0 a; word 0 60 81; word 0 70 5;";
        MeetingMachines x = Due.of(sender + "word 0 37 -2;");
        x.tick(4);
        due.is("ENABLING is READY", x.word(0, 37), -4);
        due.is("channel", x.word(0, 60), 40);
        due.is("place", x.word(0, 17), 70);
        due.is("nobody is SCHEDULED", x.queue(0, 1, -1), 0);
        x = Due.of(sender + "word 0 37 -3;");
        x.tick(4);
        due.is("WAITING is READY", x.word(0, 37), -4);
        due.is("it is SCHEDULED", x.queue(0, 1, 0), 81);
        due.is("channel", x.word(0, 60), 40);
        due.is("W - 4", x.word(0, 36), -1);
        x = Due.of(sender + "word 0 37 -4;");
        x.tick(4);
        due.is("READY stays", x.word(0, 37), -4);
        due.is("channel", x.word(0, 60), 40);
        due.is("nobody is SCHEDULED", x.queue(0, 1, -1), 0);
        due.is("no MEETING", x.count(5), 0);
        halts(sender + "word 0 37 -5;", 4);
    }

    private static void alternativeOfTimes() {
        String run = "run 0 20 1 a;";
        MeetingMachines x = Due.of("a: talt; ldc 7; ldc 30; ldc 1; enbt; ldc 25; ldc 1; enbt; ldc 26; ldc 1; enbt;"
                + "ldc 3; ldc 0; enbt; taltwt; ldc 24; ldc 1; ldc 9; dist; ldc 30; ldc 1; ldc 9; dist; stopp;" + run);
        x.tick(1);
        due.is("ENABLING", x.word(0, 17), -2);
        due.is("NOTSET", x.word(0, 16), -5);
        x.tick(4);
        due.is("SET", x.word(0, 16), -6);
        due.is("time", x.word(0, 15), 30);
        due.is("B is C", x.machine(0, 1), 7);
        x.tick(3);
        due.is("an earlier time", x.word(0, 15), 25);
        x.tick(6);
        due.is("a later time, one not so", x.word(0, 15), 25);
        x.tick(1);
        due.is("WAITING", x.word(0, 17), -3);
        due.is("in TIMERS", x.timer(0, 0, 0), 41);
        due.is("time", x.timer(0, 0, 1), 25);
        x.tick(10);
        due.is("at 25", x.word(0, 17), -3);
        x.tick(1);
        due.is("READY", x.word(0, 17), -4);
        due.is("SET", x.word(0, 16), -6);
        due.is("CLOCK", x.word(0, 15), 26);
        due.is("QUEUE", x.queue(0, 1, 0), 41);
        x.tick(4);
        due.is("26 is AFTER 24", x.word(0, 20), 9);
        due.is("A", x.machine(0, 0), 1);
        x.tick(4);
        due.is("chosen already", x.machine(0, 0), 0);
        due.is("C is 0", x.machine(0, 2), 0);
        x = Due.of("word 0 15 26; word 0 16 -6; a: ldc 26; ldc 1; ldc 9; dist; ldc 25; ldc 0; ldc 9; dist;"
                + "ldc 25; ldc 1; ldc 9; dist;" + run);
        x.tick(8);
        due.is("not AFTER, not so", x.word(0, 20), -1);
        x.tick(4);
        due.is("so", x.word(0, 20), 9);
        x = Due.of("word 0 15 26; word 0 16 -5; a: ldc 25; ldc 1; ldc 9; dist;" + run);
        x.tick(4);
        due.is("not at SET", x.word(0, 20), -1);
        timeThatIsPast(run);
        wokenAheadOfItsTime();
    }

    private static void timeThatIsPast(String run) {
        MeetingMachines x = Due.of("a: talt; ldc 3; ldc 1; enbt; taltwt;" + run);
        x.tick(5);
        due.is("CLOCK 4 is AFTER 3", x.word(0, 17), -4);
        due.is("CLOCK", x.word(0, 15), 4);
        due.is("SET", x.word(0, 16), -6);
        due.is("it goes on", x.machine(0, 4), 20);
        x = Due.of("a: talt; ldc 9; ldc 1; enbt; ldc 1; enbs; taltwt;" + run);
        x.tick(7);
        due.is("READY already", x.word(0, 16), -5);
        due.is("it goes on", x.machine(0, 4), 20);
        due.is("the word at W", x.word(0, 20), -1);
        x = Due.of("a: talt; taltwt;" + run);
        x.tick(2);
        due.is("no time: WAITING", x.word(0, 17), -3);
        due.is("not in TIMERS", x.machine(0, 10), 0);
        due.yes("stuck()", x.stuck());
    }

    private static void wokenAheadOfItsTime() {
        MeetingMachines x = Due.of("a: talt; ldc 90; ldc 1; enbt; ldc 60; ldc 1; enbc; taltwt; stopp;"
                + "b: ldc 70; ldc 60; ldc 1; out; run 0 20 1 a; run 0 30 1 b;");
        x.tick(8);
        due.is("in TIMERS", x.machine(0, 10), 1);
        x.tick(4);
        due.is("out of TIMERS", x.machine(0, 10), 0);
        due.is("NOTSET", x.word(0, 16), -5);
        due.is("READY", x.word(0, 17), -4);
        due.is("QUEUE", x.queue(0, 1, 0), 41);
        // one that came by tin stays
        x = Due.of("a: ldc 90; tin; b: ldc 70; ldc 60; ldc 1; out; word 0 60 40; word 0 17 -3; run 0 20 0 a;"
                + "run 0 30 1 b;");
        x.tick(6);
        due.is("in TIMERS by tin", x.machine(0, 10), 1);
        due.is("SCHEDULED all the same", x.queue(0, 0, 0), 40);
        due.is("W - 4", x.word(0, 16), -1);
    }

    private static void links() {
        MeetingMachines x = Due.of("join 0 1 1 0; word 0 70 5; word 0 71 6; s: ldc 70; ldc 1; ldc 2; out; stopp;"
                + "r: ldc 80; ldc 2; ldc 2; ldc 2; in; stopp; run 0 20 1 s; run 1 30 0 r;");
        x.tick(3);
        due.no("stuck()", x.stuck());
        x.tick(1);
        due.is("who sends", x.link(0, 1, 0), 41);
        due.is("left to send", x.link(0, 1, 1), 1);
        due.is("FULL", x.link(1, 0, 4), 1);
        due.is("the word", x.link(1, 0, 5), 5);
        due.is("who receives", x.link(1, 0, 2), -1);
        due.is("no word at W - 3", x.word(0, 17), -1);
        // in at 2 of 2 words from place 2 on: A 2, B 2, C 2
        x.tick(1);
        due.is("it comes", x.word(1, 2), 5);
        due.is("who receives", x.link(1, 0, 2), 60);
        due.is("left to receive", x.link(1, 0, 3), 1);
        due.is("not FULL", x.link(1, 0, 4), 0);
        due.is("no word", x.link(1, 0, 5), 0);
        due.is("left to send", x.link(0, 1, 1), 1);
        due.no("stuck()", x.stuck());
        due.is("the last word", x.tick(1), 1);
        due.is("it comes", x.word(1, 3), 6);
        due.is("who sends", x.link(0, 1, 0), -1);
        due.is("left to send", x.link(0, 1, 1), 0);
        due.is("who receives", x.link(1, 0, 2), -1);
        due.is("left to receive", x.link(1, 0, 3), 0);
        due.is("who sent is SCHEDULED", x.queue(0, 1, 0), 41);
        due.is("who received is SCHEDULED", x.queue(1, 0, 0), 60);
        row(x, 0, 6, 0, 1, 41, 60, 2);
        // both ends on one machine: who received is first
        x = Due.of("join 1 0 1 0; s: ldc 70; ldc 0; ldc 1; out; r: ldc 80; ldc 2; ldc 1; in;"
                + "run 1 20 0 s; run 1 30 0 r;");
        x.tick(8);
        due.is("first in QUEUE", x.queue(1, 0, 0), 60);
        due.is("then", x.queue(1, 0, 1), 40);
        // no JOIN: nothing moves
        x = Due.of("s: ldc 70; ldc 0; ldc 3; out; run 0 20 0 s;");
        x.tick(9);
        due.is("left to send", x.link(0, 0, 1), 3);
        due.yes("stuck()", x.stuck());
    }

    /** Places 4 and 5 are the first that are words and no LINKS. */
    private static void firstChannels() {
        MeetingMachines x = Due.of("a: ldc 70; ldc 4; ldc 1; out; run 0 20 0 a; b: ldc 70; ldc 5; ldc 1; in; run 0 30 0 b;"
                + "c: ldc 5; ldc 1; enbc; ldc 4; ldc 1; enbc; ldc 4; ldc 1; ldc 9; disc; run 1 20 0 c; word 1 5 44;");
        x.tick(8);
        due.is("out at 4", x.word(0, 4), 40);
        due.is("in at 5", x.word(0, 5), 60);
        due.is("enbc at 5", x.word(1, 17), -4);
        due.is("enbc at 4", x.word(1, 4), 40);
        x.tick(2);
        due.is("disc at 4", x.word(1, 4), -1);
        due.is("no LINK", x.link(0, 0, 0), -1);
        due.is("no LINK", x.link(0, 1, 2), -1);
        due.is("no LINK", x.link(1, 1, 6), -1);
    }

    private static void boundsOfLinks() {
        String run = " run 0 20 0 a;";
        halts("a: ldc 70; ldc 2; ldc 1; out;" + run, 4);
        halts("a: ldc 70; ldc 3; ldc 1; out;" + run, 4);
        halts("a: ldc 70; ldc 0; ldc 1; in;" + run, 4);
        halts("a: ldc 70; ldc 1; ldc 1; in;" + run, 4);
        halts("a: ldc 95; ldc 0; ldc 2; out;" + run, 4);
        halts("a: ldc 70; ldc 3; ldc 9; in;" + run, 4);
        halts("a: ldc 70; ldc 0; ldc 1; out;" + run + "run 0 30 0 a;", 8);
        halts("a: ldc 70; ldc 3; ldc 1; in;" + run + "run 0 30 0 a;", 8);
        MeetingMachines x = Due.of("a: ldc 70; ldc 1; ldc 1; out; b: ldc 70; ldc 3; ldc 1; in;" + run
                + "run 0 30 0 b;");
        x.tick(9);
        due.is("one sends and one receives", x.machine(0, 7), 0);
        due.is("who sends", x.link(0, 1, 0), 40);
        due.is("who receives", x.link(0, 1, 2), 60);
    }

    private static void linkOfUnlikeLengths() {
        // three words to send; one takes two, a later one two more
        MeetingMachines x = Due.of("join 0 0 1 1; word 0 70 5; word 0 71 6; word 0 72 7; s: ldc 70; ldc 0; ldc 3; out;"
                + "r: ldc 80; ldc 3; ldc 2; in; stopp; run 0 20 0 s; run 1 30 0 r; run 1 40 0 r;");
        x.tick(5);
        due.is("two came", x.word(1, 81), 6);
        due.is("who received is SCHEDULED", x.queue(1, 0, 0), 60);
        due.is("no MEETING", x.count(5), 0);
        due.is("the sender waits", x.link(0, 0, 0), 40);
        x.tick(1);
        due.is("the third is in the BUFFER", x.link(1, 1, 5), 7);
        due.is("left to send", x.link(0, 0, 1), 0);
        due.is("who sends", x.link(0, 0, 0), 40);
        x.tick(2);
        due.is("the third came", x.word(1, 80), 7);
        due.is("a MEETING", x.count(5), 1);
        row(x, 0, 8, 0, 0, 40, 80, 3);
        due.is("left to receive", x.link(1, 1, 3), 1);
        due.is("who sent is SCHEDULED", x.queue(0, 0, 0), 40);
    }

    private static void alternativeOfLinks() {
        String send = "s: ldc 70; ldc 0; ldc 1; out; run 1 30 0 s; join 1 0 0 1; word 1 70 9;";
        MeetingMachines x = Due.of("a: alt; ldc 7; ldc 3; ldc 1; enbc; altwt; run 0 20 0 a; join 1 0 0 1;");
        x.tick(5);
        due.is("ALT", x.link(0, 1, 6), 40);
        due.is("B is C", x.machine(0, 1), 7);
        due.is("ENABLING", x.word(0, 17), -2);
        x = Due.of("a: ldc 0; ldc 0; dup; dup; alt; ldc 3; ldc 1; enbc; run 0 20 0 a;" + send);
        x.tick(8);
        due.is("FULL: no ALT", x.link(0, 1, 6), -1);
        due.is("FULL: READY", x.word(0, 17), -4);
        x = Due.of("a: alt; ldc 3; ldc 1; enbc; altwt; ldc 3; ldc 1; ldc 11; disc; run 0 20 0 a;" + send);
        x.tick(4);
        due.is("the word came in that TICK", x.word(0, 17), -4);
        due.is("no ALT", x.link(0, 1, 6), -1);
        x.tick(5);
        due.is("FIRED", x.word(0, 20), 11);
        due.is("A", x.machine(0, 0), 1);
        waitingAlternativeOfLinks();
    }

    private static void waitingAlternativeOfLinks() {
        MeetingMachines x = Due.of("join 1 0 0 1; word 1 70 9; a: talt; ldc 50; ldc 1; enbt; ldc 3; ldc 1; enbc;"
                + "taltwt; ldc 3; ldc 1; ldc 11; disc; run 0 20 1 a;"
                + "s: ldc 8; tin; ldc 70; ldc 0; ldc 1; out; run 1 30 0 s;");
        x.tick(8);
        due.is("WAITING", x.word(0, 17), -3);
        due.is("ALT", x.link(0, 1, 6), 41);
        due.is("in TIMERS", x.machine(0, 10), 1);
        x.tick(4);
        due.is("still", x.word(0, 17), -3);
        x.tick(1);
        due.is("READY", x.word(0, 17), -4);
        due.is("NOTSET", x.word(0, 16), -5);
        due.is("no ALT", x.link(0, 1, 6), -1);
        due.is("out of TIMERS", x.machine(0, 10), 0);
        due.is("QUEUE", x.queue(0, 1, 0), 41);
        x.tick(4);
        due.is("FIRED", x.word(0, 20), 11);
        x = Due.of("a: alt; ldc 3; ldc 1; enbc; ldc 3; ldc 1; ldc 11; disc; run 0 20 0 a;");
        x.tick(8);
        due.is("disc: no ALT", x.link(0, 1, 6), -1);
        due.is("not FIRED", x.word(0, 20), -1);
    }

    private static void joinsOfHaltedMachines() {
        String text = "join 0 0 1 0; s: ldc 70; ldc 0; ldc 2; out; h: ldc 1; ldc 1; ldc 1; halt; run 0 20 0 s;";
        MeetingMachines x = Due.of(text + "run 1 20 0 h;");
        x.tick(5);
        due.is("HALTED", x.machine(1, 7), 1);
        due.is("left to send", x.link(0, 0, 1), 2);
        due.yes("stuck()", x.stuck());
        x = Due.of(text + "run 0 30 0 h; r: ldc 80; ldc 2; ldc 2; in; run 1 30 0 r; word 0 70 6;");
        x.tick(4);
        due.is("a word came", x.word(1, 80), 6);
        x.tick(10);
        due.is("the next came", x.count(5), 1);
        x = Due.of("join 0 0 1 0; s: ldc 70; ldc 0; ldc 2; out; h: halt; run 0 20 0 s; run 0 30 0 h; word 0 70 6;"
                + "r: ldc 80; ldc 2; ldc 2; in; run 1 30 0 r;");
        x.tick(5);
        due.is("HALTED", x.machine(0, 7), 1);
        due.is("no word more", x.link(1, 0, 3), 1);
        due.is("left to send", x.link(0, 0, 1), 1);
        due.yes("stuck()", x.stuck());
    }

    private static void meetingsComeBack() {
        MeetingMachines x = Due.of("s: ldlp 1; ldc 60; ldc 1; out; j s; r: ldlp 1; ldc 60; ldc 1; in; j r;"
                + "run 0 20 0 s; run 0 30 0 r;");
        x.tick(300);
        int eldest = x.meeting(0, 0);
        int latest = x.meeting(29, 0);
        x.tick(300);
        due.yes("others are kept", x.meeting(0, 0) > latest);
        x.undo();
        due.is("the eldest", x.meeting(0, 0), eldest);
        due.is("the latest", x.meeting(29, 0), latest);
    }

    private static void meetingsKept() {
        MeetingMachines x = Due.of("s: ldlp 1; ldc 60; ldc 1; out; j s; r: ldlp 1; ldc 60; ldc 1; in; j r;"
                + "run 0 20 0 s; run 0 30 0 r;");
        x.keep(0);
        x.tick(300);
        x.tick(60);
        due.is("all MEETINGS", x.count(5), 36);
        due.is("meeting(30, 0)", x.meeting(30, 0), -1);
        due.is("meeting(-1, 0)", x.meeting(-1, 0), -1);
        due.is("meeting(0, 6)", x.meeting(0, 6), -1);
        due.is("meeting(0, -1)", x.meeting(0, -1), -1);
        int[] ticks = new int[30];
        for (int i = 0; i < 30; i++) {
            ticks[i] = x.meeting(i, 0);
        }
        x.back(0);
        int met = 0;
        for (int t = 1; t <= 360; t++) {
            if (x.tick(1) == 1) {
                if (met >= 6) {
                    due.is("TICK of the latest ones, the eldest first", ticks[met - 6], t);
                }
                met++;
            }
        }
        due.is("MEETINGS the second time", met, 36);
        x.back(0);
        x.tick(8);
        row(x, 0, 8, 0, 60, 40, 60, 1);
        due.is("no second", x.meeting(1, 0), -1);
        x.undo();
        due.is("UNDONE", x.meeting(0, 0), -1);
    }
}
