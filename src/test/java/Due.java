import java.util.NoSuchElementException;

/** Counts and prints the answers that are not due; the tests' helper. */
final class Due {
    private int asked;
    private int wrong;

    void is(String call, long got, long due) {
        asked++;
        if (got != due) {
            wrong++;
            System.out.println(call + " answered " + got + ", due is " + due);
        }
    }

    void yes(String call, boolean got) {
        is(call, got ? 1 : 0, 1);
    }

    void no(String call, boolean got) {
        is(call, got ? 1 : 0, 0);
    }

    /** A call that must throw NoSuchElementException. */
    void lacks(String call, Runnable run) {
        asked++;
        try {
            run.run();
        } catch (NoSuchElementException e) {
            return;
        }
        wrong++;
        System.out.println(call + " did not throw NoSuchElementException");
    }

    void end() {
        System.out.println(wrong == 0 ? asked + " answers are as due" : wrong + " of " + asked + " are not as due");
        if (wrong != 0 || asked == 0) {
            System.exit(1);
        }
    }

    /** Puts a text on THE TAPE alone. */
    static void tape(MeetingMachines x, String text) {
        x.end(0);
        for (int at = 0; at < text.length(); at += 20) {
            if (x.feed(four(text, at), four(text, at + 4), four(text, at + 8), four(text, at + 12),
                    four(text, at + 16)) == MeetingMachines.NONE) {
                throw new IllegalStateException("the text is too long for THE TAPE: " + text);
            }
        }
        if (!x.end(text.length())) {
            throw new IllegalStateException("THE TAPE can't be cut: " + text);
        }
    }

    private static int four(String text, int at) {
        int number = 0;
        for (int i = at; i < at + 4; i++) {
            number = number << 8 | (i < text.length() ? text.charAt(i) & 255 : 0);
        }
        return number;
    }

    /** A new object with a PROGRAM that has no FAULT. */
    static MeetingMachines of(String text) {
        MeetingMachines x = new MeetingMachines();
        tape(x, text);
        int answer = x.text();
        if (answer < 0) {
            int fault = -2 - answer;
            throw new IllegalStateException("a FAULT of kind " + fault % 8 + " at " + fault / 8 + ": " + text);
        }
        return x;
    }

    /** How text() answers a FAULT. */
    static int fault(int place, int kind) {
        return -2 - (8 * place + kind);
    }
}
