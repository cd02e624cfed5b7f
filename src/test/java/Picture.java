import java.util.NoSuchElementException;

/**
 * All that an object shows, as a text: first what there is and will be, then what is left to undo, what is kept and
 * what stands on THE TAPE. It takes the object to its end and stays below the 512 calls that an object is used for.
 */
final class Picture {
    private static final int NONE = MeetingMachines.NONE;

    private final MeetingMachines x;
    private final StringBuilder drawn = new StringBuilder();

    private Picture(MeetingMachines x) {
        this.x = x;
    }

    static String of(MeetingMachines x) {
        return new Picture(x).all();
    }

    private String all() {
        drawCounts();
        for (int m = 0; m < 2; m++) {
            drawMachine(m);
        }
        for (int i = 0; i < 3; i++) {
            for (int what = 0; what < 6; what++) {
                draw(x.meeting(i, what));
            }
        }
        drawWhatWillBe();
        drawProgram();
        while (x.undo() != NONE) {
            drawShortly("undone");
        }
        for (int k = 0; k < 2; k++) {
            drawShortly("kept " + k + " " + x.back(k));
        }
        draw(x.text());
        return drawn.toString();
    }

    private void draw(int answer) {
        drawn.append(' ').append(answer);
    }

    private void title(String title) {
        drawn.append('\n').append(title).append(':');
    }

    private void drawCounts() {
        title("count");
        for (int what = 0; what < 8; what++) {
            draw(x.count(what));
        }
    }

    private void drawMachine(int m) {
        title("machine " + m);
        for (int what = 0; what <= 10; what++) {
            draw(x.machine(m, what));
        }
        title("words");
        for (int place = 0; place < 96; place++) {
            draw(x.word(m, place));
        }
        title("queues, timers, links");
        for (int priority = 0; priority < 2; priority++) {
            int many = x.queue(m, priority, NONE);
            draw(many);
            for (int i = 0; i < many && i < 4; i++) {
                draw(x.queue(m, priority, i));
            }
        }
        draw(x.timer(m, NONE, 0));
        for (int i = 0; i < 2; i++) {
            draw(x.timer(m, i, 0));
            draw(x.timer(m, i, 1));
        }
        for (int what = 0; what < 7; what++) {
            draw(x.link(m, 0, what));
            draw(x.link(m, 1, what));
        }
    }

    private void drawWhatWillBe() {
        title("will be");
        for (int what = 0; what < 4; what++) {
            draw(x.ahead(60, what));
        }
        draw(x.share(0, 1, 60));
        draw(x.slices(0, 61, 60));
        drawn.append(x.stuck());
    }

    private void drawProgram() {
        title("program");
        int many = Math.min(x.count(0), 40);
        for (int i = 0; i <= many; i++) {
            try {
                draw(x.code(i, 0));
                draw(x.code(i, 1));
            } catch (NoSuchElementException e) {
                drawn.append(" none");
            }
        }
        for (int k = 0; k < 8; k++) {
            draw(x.label(k));
        }
    }

    private void drawShortly(String title) {
        title(title);
        for (int what = 3; what < 7; what++) {
            draw(x.count(what));
        }
        draw(x.machine(0, 6));
        draw(x.machine(0, 4));
        draw(x.word(0, 90));
        draw(x.queue(0, 1, NONE));
    }
}
