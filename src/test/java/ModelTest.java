import java.util.function.IntSupplier;

/** Holds the class against PlainModel over many made programs and calls. */
public final class ModelTest {
    private static final int PROGRAMS = 700;
    private static final int ACTS = 40;

    private final Tales tales;
    private final long seed;
    private final MeetingMachines x = new MeetingMachines();
    private final PlainModel y = new PlainModel();
    private final StringBuilder done = new StringBuilder();
    private String text = "";
    private static int wrong = 0;
    private static int meetings = 0;
    private static int halts = 0;
    private static int faults = 0;

    private ModelTest(long seed) {
        this.seed = seed;
        tales = new Tales(seed);
    }

    public static void main(String[] args) {
        int first = args.length > 0 ? Integer.parseInt(args[0]) : 1;
        int programs = args.length > 1 ? Integer.parseInt(args[1]) : PROGRAMS;
        for (int seed = first; seed < first + programs && wrong < 5; seed++) {
            new ModelTest(seed).run();
        }
        System.out.println(programs + " programs, " + meetings + " meetings, " + halts + " halted machines, "
                + faults + " faults: " + (wrong == 0 ? "all answers agree" : wrong + " answers do not agree"));
        if (wrong != 0) {
            System.exit(1);
        }
    }

    private boolean same(String call, IntSupplier a, IntSupplier b) {
        done.append(call).append('\n');
        int got = call(a);
        int want = call(b);
        if (got != want && wrong < 5) {
            wrong++;
            System.out.println("seed " + seed + ", text:\n" + text + "\ncalls:\n" + done + "answered " + got
                    + ", the model " + want);
        }
        return got == want;
    }

    private static final int THROWN = 123456789;

    private static int call(IntSupplier s) {
        try {
            return s.getAsInt();
        } catch (java.util.NoSuchElementException e) {
            return THROWN;
        }
    }

    private void run() {
        newText();
        for (int k = 0; k < ACTS && wrong == 0; k++) {
            act();
            int keepLength = done.length();
            look();
            if (wrong == 0) {
                done.setLength(keepLength);
            }
        }
        meetings += y.count(5);
        halts += y.machine(0, 7) + y.machine(1, 7);
    }

    private void newText() {
        text = tales.program();
        String spoilt = tales.spoil(text);
        if (tales.below(4) == 0) {
            put(text);
            same("text()", x::text, y::text);
            put(spoilt);
        } else {
            put(spoilt);
            same("spoilt text() " + spoilt, x::text, this::spoiltText);
            put(text);
        }
        same("text()", x::text, y::text);
        for (int i = -1; i <= 100; i++) {
            int at = i;
            for (int what = -1; what <= 2; what++) {
                int w = what;
                same("code", () -> x.code(at, w), () -> y.code(at, w));
            }
            same("label", () -> x.label(at), () -> y.label(at));
            same("hog", () -> x.hog(at - 1), () -> y.hog(at - 1));
        }
        for (int k = -2; k <= 100; k++) {
            int i = tales.below(60) - 1;
            int at = k;
            same("reach", () -> x.reach(i, at), () -> y.reach(i, at));
            same("reach", () -> x.reach(i, -1), () -> y.reach(i, -1));
        }
    }

    private int spoiltText() {
        int answer = y.text();
        faults += answer < 0 ? 1 : 0;
        return answer;
    }

    private void put(String s) {
        same("end(0)", () -> x.end(0) ? 1 : 0, () -> y.end(0) ? 1 : 0);
        for (int at = 0; at < s.length(); at += 20) {
            int[] five = new int[5];
            for (int i = 0; i < 20; i++) {
                five[i / 4] = five[i / 4] << 8 | (at + i < s.length() ? s.charAt(at + i) : 1);
            }
            same("feed", () -> x.feed(five[0], five[1], five[2], five[3], five[4]), () -> y.feed(five));
        }
        same("end", () -> x.end(s.length()) ? 1 : 0, () -> y.end(s.length()) ? 1 : 0);
    }

    private int place() {
        return tales.below(20) == 0 ? tales.from(-1, 96, 0, 95, 1000, Integer.MIN_VALUE) : tales.below(96);
    }

    private int m() {
        return tales.below(20) == 0 ? tales.from(-1, 2, 7) : tales.below(2);
    }

    private int some() {
        return tales.from(-1, -2, -3, -4, -5, -6, 0, 1, 2, 24, 25, 40, 41, 58, 72, 107, 191, 192, 9, 10, 4000,
                Integer.MAX_VALUE, Integer.MIN_VALUE);
    }

    private void act() {
        int m = m();
        int k = tales.below(3);
        switch (tales.below(20)) {
            case 0 -> {
                int n = tales.below(64) - 1;
                same("slice(" + n + ")", () -> x.slice(n), () -> y.slice(n));
            }
            case 1 -> {
                int place = tales.below(3) == 0 ? place() : tales.from(12, 20, 29, 36, 45, 53) - tales.below(7) + 1;
                int v = some();
                same("poke(" + m + ", " + place + ", " + v + ")", () -> x.poke(m, place, v) ? 1 : 0,
                        () -> y.poke(m, place, v) ? 1 : 0);
            }
            case 2 -> {
                int w = tales.from(12, 20, 29, 36, 45, 53, 5, 95, 4, 96);
                int priority = tales.from(0, 1, 0, 1, 0, 1, 2, -1);
                int i = tales.below(60) - 1;
                same("start(" + m + ", " + w + ", " + priority + ", " + i + ")", () -> x.start(m, w, priority, i) ? 1
                        : 0, () -> y.start(m, w, priority, i) ? 1 : 0);
            }
            case 3 -> same("undo()", x::undo, y::undo);
            case 4 -> same("keep(" + k + ")", () -> x.keep(k) ? 1 : 0, () -> y.keep(k) ? 1 : 0);
            case 5 -> same("back(" + k + ")", () -> x.back(k) ? 1 : 0, () -> y.back(k) ? 1 : 0);
            case 6 -> {
                int n = tales.from(0, -1, 301, 300, 60);
                same("tick(" + n + ")", () -> x.tick(n), () -> y.tick(n));
            }
            default -> {
                int n = 1 + tales.below(tales.from(1, 3, 12, 30));
                same("tick(" + n + ")", () -> x.tick(n), () -> y.tick(n));
            }
        }
    }

    private void look() {
        for (int what = -1; what <= 8; what++) {
            int w = what;
            same("count(" + w + ")", () -> x.count(w), () -> y.count(w));
        }
        same("stuck()", () -> x.stuck() ? 1 : 0, () -> y.stuck() ? 1 : 0);
        for (int m = 0; m < 2; m++) {
            lookAt(m);
        }
        lookAt(tales.from(-1, 2));
        for (int i = -1; i <= 30; i++) {
            int at = i;
            for (int what = -1; what <= 6; what++) {
                int w = what;
                same("meeting(" + at + ", " + w + ")", () -> x.meeting(at, w), () -> y.meeting(at, w));
            }
        }
        if (tales.below(4) == 0) {
            lookAhead();
        }
    }

    private void lookAt(int m) {
        for (int place = -1; place <= 96; place++) {
            int p = place;
            same("word(" + m + ", " + p + ")", () -> x.word(m, p), () -> y.word(m, p));
        }
        for (int what = -1; what <= 11; what++) {
            int w = what;
            same("machine(" + m + ", " + w + ")", () -> x.machine(m, w), () -> y.machine(m, w));
            for (int k = -1; k <= 2; k++) {
                int at = k;
                same("link(" + m + ", " + at + ", " + w + ")", () -> x.link(m, at, w), () -> y.link(m, at, w));
            }
        }
        for (int i = -2; i <= 49; i++) {
            int at = i;
            for (int priority = -1; priority <= 2; priority++) {
                int p = priority;
                same("queue(" + m + ", " + p + ", " + at + ")", () -> x.queue(m, p, at), () -> y.queue(m, p, at));
            }
        }
        for (int i = -2; i <= 13; i++) {
            int at = i;
            for (int what = -1; what <= 2; what++) {
                int w = what;
                same("timer(" + m + ", " + at + ", " + w + ")", () -> x.timer(m, at, w), () -> y.timer(m, at, w));
            }
        }
    }

    private void lookAhead() {
        int m = m();
        int n = tales.from(0, 1, 7, 40, 40, 100, 300, 301, -1);
        int what = tales.below(6) - 1;
        int place = place();
        int v = some();
        int p = tales.below(5) - 1;
        int few = tales.from(0, 5, 30, 200, 201, -1);
        same("ahead(" + n + ", " + what + ")", () -> x.ahead(n, what), () -> y.ahead(n, what));
        same("share(" + m + ", " + p + ", " + n + ")", () -> x.share(m, p, n), () -> y.share(m, p, n));
        same("until(" + m + ", " + place + ", " + v + ", " + n + ")", () -> x.until(m, place, v, n),
                () -> y.until(m, place, v, n));
        same("slices(" + m + ", " + place + ", " + few + ")", () -> x.slices(m, place, few),
                () -> y.slices(m, place, few));
    }
}
