/** Makes texts and numbers from a seed, always the same ones. */
final class Tales {
    private static final int[] WS = {12, 20, 29, 36, 45, 53};
    private static final String[] PLAIN = {"add", "sub", "mul", "gt", "rev", "dup", "ldpri", "clock"};

    private long state;
    private StringBuilder text;
    private int labels;
    private int blocks;
    private boolean isWild;

    Tales(long seed) {
        state = seed * 0x9E3779B97F4A7C15L + 0x1234567;
    }

    int below(int n) {
        state = state * 6364136223846793005L + 1442695040888963407L;
        return (int) ((state >>> 33) % n);
    }

    int from(int... some) {
        return some[below(some.length)];
    }

    private boolean once(int in) {
        return below(in) == 0;
    }

    /** A PROGRAM of some processes; seldom with a FAULT, never longer than THE TAPE. */
    String program() {
        String made = tryProgram();
        while (made.length() > 700) {
            made = tryProgram();
        }
        return made;
    }

    private String tryProgram() {
        text = new StringBuilder();
        labels = 0;
        blocks = 2 + below(4);
        isWild = once(4);
        if (once(2)) {
            say("slice " + (1 + below(12)));
        }
        for (int k = below(3); k > 0; k--) {
            say("word " + below(2) + " " + from(61, 62, 63, 13, 21, 30, 12, 20) + " " + from(-1, 1, 2, 3, 40, 57, 7));
        }
        int[] sides = {0, 1, 2, 3};
        int[] others = {0, 1, 2, 3};
        for (int k = below(5), j = 0; j < k; j++) {
            swap(sides, j);
            swap(others, j);
            say("join " + sides[j] / 2 + " " + sides[j] % 2 + " " + others[j] / 2 + " " + others[j] % 2);
        }
        for (int b = 0; b < blocks; b++) {
            block(b);
        }
        for (int b = 0; b < blocks; b++) {
            run(b);
        }
        for (int k = below(3); k > 0; k--) {
            run(below(blocks));
        }
        return text.toString();
    }

    private void swap(int[] row, int j) {
        int k = j + below(row.length - j);
        int kept = row[j];
        row[j] = row[k];
        row[k] = kept;
    }

    private void say(String line) {
        text.append(line).append(once(6) ? " ;\n" : ";");
    }

    private String block(char kind, int b) {
        return kind + "" + (char) ('a' + b);
    }

    private void run(int b) {
        say("run " + (once(4) ? 1 : 0) + " " + WS[below(WS.length)] + " " + below(2) + " " + block('p', b));
    }

    private String newLabel() {
        return "x" + (char) ('a' + labels / 26) + (char) ('a' + labels++ % 26);
    }

    private void block(int b) {
        text.append(block('p', b)).append(':');
        say(once(2) ? "ldc " + below(5) : "clock");
        for (int k = 1 + below(4); k > 0; k--) {
            deed();
        }
        say(once(3) ? "stopp" : isWild && once(8) ? "halt" : "j " + block('p', below(4) == 0 ? below(blocks) : b));
    }

    private String channelOut() {
        return "ldc " + (isWild && once(9) ? from(2, 3, -1, 96, 12) : from(61, 61, 61, 62, 0, 0, 1));
    }

    private String channelIn() {
        return "ldc " + (isWild && once(9) ? from(0, 1, -1, 96, 20) : from(61, 61, 61, 62, 2, 2, 3));
    }

    private void deed() {
        switch (below(14)) {
            case 0, 1, 2 -> talk("out", channelOut());
            case 3, 4, 5 -> talk("in", channelIn());
            case 6 -> {
                say("clock");
                say("adc " + (below(12) - 2));
                say("tin");
            }
            case 7, 8, 9, 10 -> alternative(once(2));
            case 11 -> starts();
            case 12 -> ends();
            default -> plain();
        }
    }

    private void words() {
        say("ldc " + below(9));
        say("stl " + (1 + below(3)));
    }

    private void talk(String op, String channel) {
        if (once(3)) {
            words();
        }
        say("ldlp " + (1 + below(3)));
        say(channel);
        say("ldc " + (isWild && once(9) ? from(0, 9, 8, -1) : from(1, 1, 1, 2, 2, 3)));
        say(op);
    }

    private void alternative(boolean timed) {
        int guards = 1 + below(3);
        int[] kind = new int[guards];
        String[] what = new String[guards];
        String[] so = new String[guards];
        say(timed ? "talt" : "alt");
        for (int g = 0; g < guards; g++) {
            kind[g] = once(5) ? 1 : timed && once(2) ? 2 : 0;
            so[g] = "ldc " + from(1, 1, 1, 1, 0);
            what[g] = channelIn();
            if (kind[g] == 0) {
                say(what[g]);
            } else if (kind[g] == 2) {
                what[g] = "ldl " + (g + 1);
                say("clock");
                say("adc " + (below(9) - 1));
                say("stl " + (g + 1));
                say(what[g]);
            }
            say(so[g]);
            say(kind[g] == 0 ? "enbc" : kind[g] == 1 ? "enbs" : "enbt");
        }
        say(timed ? "taltwt" : "altwt");
        String to = newLabel();
        for (int g = 0; g < guards; g++) {
            if (kind[g] != 1) {
                say(what[g]);
            }
            say(so[g]);
            say("ldpi " + to);
            say(kind[g] == 0 ? "disc" : kind[g] == 1 ? "diss" : "dist");
        }
        say("altend");
        text.append(to).append(':');
        if (once(2)) {
            say("ldlp 1");
            say(what[0].startsWith("ldl") ? channelIn() : what[0]);
            say("ldc 1");
            say("in");
        } else {
            say("adc 1");
        }
    }

    private void starts() {
        say("ldpi " + block('p', below(blocks)));
        say("ldc " + WS[below(WS.length)]);
        say("startp");
    }

    private void ends() {
        if (once(2)) {
            say("ldpi " + block('p', below(blocks)));
            say("ldc " + WS[below(WS.length)]);
            say("store");
        }
        say("ldc " + WS[below(WS.length)]);
        say("endp");
    }

    private void plain() {
        for (int k = 1 + below(4); k > 0; k--) {
            switch (below(isWild ? 14 : 10)) {
                case 0 -> say("ldl " + (below(9) - 4));
                case 1 -> say("stl " + (1 + below(4)));
                case 2 -> say("ldlp " + (below(9) - 4));
                case 3 -> say("adc " + from(1, -1, 9999, 5));
                case 4 -> say("eqc " + below(3));
                case 5 -> say("ldc " + from(0, 1, 2, -1, 61, 62, 20, 41, -9999, 9999));
                case 6 -> {
                    say("ldlp " + (below(9) - 4));
                    say(once(2) ? "load" : "store");
                }
                case 10 -> say("cj " + block('p', below(blocks)));
                case 11 -> say(once(3) ? "ajw " + from(1, -1, 8, -8) : "stl " + (below(9) - 4));
                case 12 -> {
                    say("ldc " + (2 * WS[below(WS.length)] + below(2)));
                    say("runp");
                }
                case 13 -> say(PlainModel.OPS.get(10 + below(29)));
                default -> say(PLAIN[below(PLAIN.length)]);
            }
        }
    }

    /** A text with some bytes changed, cut or doubled: most have a FAULT. */
    String spoil(String whole) {
        StringBuilder s = new StringBuilder(whole);
        for (int k = 1 + below(2); k > 0; k--) {
            int at = below(s.length() + 1);
            int more = Math.min(s.length(), at + 1 + below(6));
            switch (below(6)) {
                case 0 -> s.setLength(at);
                case 1 -> s.delete(at, more);
                case 2 -> s.insert(at, s.substring(at, more));
                case 3 -> s.insert(at, (char) from(0, 32, 10, 9, 45, 48, 57, 58, 59, 97, 122, 65, 128, 255));
                case 4 -> s.insert(at, PIECES[below(PIECES.length)]);
                default -> s.append(PIECES[below(PIECES.length)]);
            }
        }
        return s.length() > 700 ? s.substring(0, 700) : s.toString();
    }

    private static final String[] PIECES = {"slice 5;", "slice 0;", "slice 61;", "slice", "word 0 95 -9999;",
        "word 2 0 0;", "word 1 96 0;", "join 0 0 0 0;", "join 1 1 1 1;", "join 0 2 0 0;", "join 0 1 0 2;",
        "join 2 0 0 0;", "run 0 5 0 pa;", "run 0 4 0 pa;", "run 0 96 0 pa;", "run 0 9 2 pa;", "run 0 9 0 no;",
        "run 0 9 0 j;", "pa:halt;", "no:halt;", "pa", ":", ";", "-", "--1", "12345", "abcdefg", " ", "halt;", "j no;",
        "j ", "ldc -0;", "ldc 0000;", "out"};
}
