import java.util.NoSuchElementException;
import java.util.function.Consumer;

/**
 * Each call that is refused leaves all as it was; each question, that of what will be too, changes nothing: two like
 * objects are held against each other, one of which was asked more.
 */
public final class RefusedTest {
    private static final Due due = new Due();
    private static final int FAR = Integer.MAX_VALUE;
    private static final int LOW_FAR = Integer.MIN_VALUE;

    public static void main(String[] args) {
        theStateIsRich();
        feedRefused();
        endRefused();
        textWithFault();
        codeAndWordRefused();
        sliceRefused();
        pokeRefused();
        startRefused();
        startRefusedByHaltedMachine();
        tickRefused();
        undoRefused();
        keepAndBackRefused();
        questionsOfTheProgram();
        questionsOfWhatThereIs();
        questionsOfWhatWillBe();
        due.end();
    }

    private static void theStateIsRich() {
        MeetingMachines x = Scene.rich();
        due.is("who runs", x.machine(0, 4), 85);
        due.is("INTERRUPTED", x.machine(0, 9), 161);
        due.is("TIMERS", x.machine(0, 10), 1);
        due.is("FULL", x.link(1, 1, 4), 1);
        due.is("who sends", x.link(0, 0, 0), 41);
        due.is("ALT", x.link(1, 0, 6), 40);
        due.is("MEETINGS", x.count(5), 1);
        due.is("ACTS", x.count(6), 5);
        due.is("bytes", x.count(7), 18);
    }

    private static void changesNothing(String call, Consumer<MeetingMachines> asked) {
        MeetingMachines x = Scene.rich();
        asked.accept(x);
        same(call, x, Scene.rich());
    }

    private static void same(String call, MeetingMachines x, MeetingMachines y) {
        String got = Picture.of(x);
        String want = Picture.of(y);
        due.yes(call + " leaves all as it was; it is\n" + got + "\nand was\n" + want + "\nso this", got.equals(want));
    }

    /** "NONE, and none come, if it would have more than 700." */
    private static void feedRefused() {
        for (int size : new int[] {681, 699, 700}) {
            MeetingMachines x = fed(size);
            due.is("feed behind " + size, x.feed(FAR, 1, 2, 3, 4), -1);
            same("feed behind " + size, x, fed(size));
        }
    }

    private static MeetingMachines fed(int size) {
        MeetingMachines x = Due.of(Scene.RICH);
        Due.tape(x, " ".repeat(size - 5) + "halt;");
        return x;
    }

    /** "false, and nothing happens: it has not so many, n is below 0." */
    private static void endRefused() {
        for (int n : new int[] {-1, 19, 700, 701, FAR, LOW_FAR}) {
            changesNothing("end(" + n + ")", x -> due.no("end(" + n + ")", x.end(n)));
        }
    }

    /** "a FAULT (all else stays)": all but THE TAPE, which is empty then. */
    private static void textWithFault() {
        for (String text : new String[] {"slice 7; word 0 70 9; join 1 0 0 0; b: halt; run 0 30 0 b; ?",
            "run 1 20 0 z; b: halt; halt; word 0 90 5;", "slice 61;", "a: halt; a: halt;", "run 0 20 0"}) {
            MeetingMachines x = Scene.rich();
            Due.tape(x, text);
            due.yes("a FAULT of " + text, x.text() < -1);
            MeetingMachines y = Scene.rich();
            y.end(0);
            same("text() of " + text, x, y);
        }
    }

    private static void lacks(String call, Consumer<MeetingMachines> asked) {
        changesNothing(call, x -> due.lacks(call, () -> asked.accept(x)));
    }

    /** "NoSuchElementException: no such ones." */
    private static void codeAndWordRefused() {
        lacks("code(-1, 0)", x -> x.code(-1, 0));
        lacks("code(26, 0)", x -> x.code(26, 0));
        lacks("code(FAR, 1)", x -> x.code(FAR, 1));
        lacks("code(0, -1)", x -> x.code(0, -1));
        lacks("code(0, 2)", x -> x.code(0, 2));
        lacks("word(-1, 0)", x -> x.word(-1, 0));
        lacks("word(2, 0)", x -> x.word(2, 0));
        lacks("word(0, -1)", x -> x.word(0, -1));
        lacks("word(1, 96)", x -> x.word(1, 96));
        lacks("word(LOW_FAR, FAR)", x -> x.word(LOW_FAR, FAR));
    }

    /** "NONE: another n." */
    private static void sliceRefused() {
        for (int n : new int[] {0, 61, -1, FAR, LOW_FAR}) {
            changesNothing("slice(" + n + ")", x -> due.is("slice(" + n + ")", x.slice(n), -1));
        }
    }

    private static void noPoke(int machine, int place) {
        changesNothing("poke at " + machine + ", " + place, x -> due.no("poke", x.poke(machine, place, 5)));
    }

    /** "false: no such machine, place." */
    private static void pokeRefused() {
        noPoke(-1, 0);
        noPoke(2, 0);
        noPoke(0, -1);
        noPoke(1, 96);
        noPoke(0, FAR);
        noPoke(LOW_FAR, LOW_FAR);
    }

    private static void noStart(int machine, int w, int priority, int i) {
        String call = "start(" + machine + ", " + w + ", " + priority + ", " + i + ")";
        changesNothing(call, x -> due.no(call, x.start(machine, w, priority, i)));
    }

    /** "false: no such machine, W, PRIORITY, INSTRUCTION i". */
    private static void startRefused() {
        noStart(-1, 20, 0, 0);
        noStart(2, 20, 0, 0);
        noStart(0, 4, 0, 0);
        noStart(0, 96, 0, 0);
        noStart(0, FAR, 0, 0);
        noStart(0, LOW_FAR, 0, 0);
        noStart(0, 20, -1, 0);
        noStart(0, 20, 2, 0);
        noStart(0, 20, 0, -1);
        noStart(0, 20, 0, 26);
        noStart(1, 95, 1, FAR);
    }

    /** "the machine is HALTED": the other one is not. */
    private static void startRefusedByHaltedMachine() {
        MeetingMachines x = halted();
        due.no("start on the HALTED one", x.start(1, 30, 0, 0));
        same("start on the HALTED one", x, halted());
        due.yes("start on the other", halted().start(0, 30, 0, 0));
    }

    private static MeetingMachines halted() {
        MeetingMachines x = Due.of("a: ldc 5; halt; run 1 20 0 a; run 1 40 1 a;");
        x.tick(3);
        return x;
    }

    /** "NONE: another n." */
    private static void tickRefused() {
        for (int n : new int[] {0, 301, -1, FAR, LOW_FAR}) {
            changesNothing("tick(" + n + ")", x -> due.is("tick(" + n + ")", x.tick(n), -1));
        }
    }

    /** "NONE: none can be." */
    private static void undoRefused() {
        MeetingMachines x = Due.of(Scene.RICH);
        due.is("undo() of nothing", x.undo(), -1);
        same("undo() of nothing", x, Due.of(Scene.RICH));
        x = Scene.rich();
        x.back(0);
        due.is("undo() behind back", x.undo(), -1);
        MeetingMachines y = Scene.rich();
        y.back(0);
        same("undo() behind back", x, y);
    }

    /** "false: no such place"; "false: no such place, nothing is kept there." */
    private static void keepAndBackRefused() {
        for (int k : new int[] {-1, 2, FAR, LOW_FAR}) {
            changesNothing("keep(" + k + ")", x -> due.no("keep(" + k + ")", x.keep(k)));
            changesNothing("back(" + k + ")", x -> due.no("back(" + k + ")", x.back(k)));
        }
        changesNothing("back(1)", x -> due.no("back(1)", x.back(1)));
    }

    private static void questionsOfTheProgram() {
        changesNothing("questions of the program", x -> {
            for (int i : new int[] {-1, 0, 25, 26}) {
                x.reach(i, -1);
                x.reach(i, 0);
                x.hog(i);
                x.label(i);
                x.count(i);
            }
        });
    }

    private static void questionsOfWhatThereIs() {
        changesNothing("questions of what there is", x -> {
            for (int m = -1; m <= 2; m++) {
                x.machine(m, 0);
                x.queue(m, 0, 48);
                x.queue(m, 2, 0);
                x.timer(m, -1, 0);
                x.timer(m, 12, 1);
                x.link(m, 2, 0);
                x.link(m, 0, 5);
                x.meeting(m, 0);
                x.stuck();
            }
        });
    }

    /** "What is asked of so many TICKS to come changes nothing." */
    private static void questionsOfWhatWillBe() {
        for (int n : new int[] {-1, 0, 1, 40, 200, 300, 301}) {
            changesNothing("questions of " + n + " TICKS", x -> {
                for (int what = -1; what <= 4; what++) {
                    x.ahead(n, what);
                    x.share(0, what, n);
                }
                x.share(1, 2, n);
                x.until(0, 61, 12345, n);
                x.until(2, 61, 12345, n);
                x.slices(0, 61, n);
                x.slices(0, 96, n);
            });
        }
    }
}
