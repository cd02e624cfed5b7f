import java.util.ArrayList;
import java.util.Arrays;
import java.util.HashMap;
import java.util.List;
import java.util.Map;
import java.util.NoSuchElementException;
import java.util.TreeSet;

/**
 * A second reading of ../shared/DOC.md, sentence by sentence and without any thought of cost: all is copied ahead of
 * each TICK, and what can't be is an exception. ModelTest holds the class against it.
 */
final class PlainModel {
    static final int NONE = -1;
    static final List<String> OPS = List.of("ldc", "ldl", "stl", "ldlp", "adc", "eqc", "ajw", "j", "cj", "ldpi", "add",
            "sub", "mul", "gt", "rev", "dup", "load", "store", "startp", "endp", "stopp", "runp", "ldpri", "clock",
            "tin", "in", "out", "alt", "altwt", "altend", "enbc", "disc", "enbs", "diss", "talt", "taltwt", "enbt",
            "dist", "halt");
    static final List<String> OTHERS = List.of("slice", "word", "join", "run");

    @SuppressWarnings("serial")
    private static final class Fault extends RuntimeException {
        final int place;
        final int kind;

        Fault(int place, int kind) {
            this.place = place;
            this.kind = kind;
        }
    }

    @SuppressWarnings("serial")
    private static final class Halted extends RuntimeException {
    }

    private static void must(boolean can) {
        if (!can) {
            throw new Halted();
        }
    }

    // ---- the program.

    private static final class Code {
        final String op;
        int number;
        String use;
        int usePlace;

        Code(String op) {
            this.op = op;
        }
    }

    private static final class Program {
        int slice = 8;
        final List<Code> code = new ArrayList<>();
        final List<String> labels = new ArrayList<>();
        final Map<String, Integer> labelAt = new HashMap<>();
        final List<int[]> joins = new ArrayList<>();
        final List<int[]> words = new ArrayList<>();
        final List<int[]> runs = new ArrayList<>();
        final List<String> runUse = new ArrayList<>();
        final List<int[]> uses = new ArrayList<>();
        final List<String> useNames = new ArrayList<>();
    }

    private record Token(int place, String text) {
        boolean isWord() {
            return text.matches("[a-z]{1,6}");
        }

        boolean isNumber() {
            return text.matches("-?[0-9]{1,4}");
        }

        boolean isLabel() {
            return isWord() && !OPS.contains(text) && !OTHERS.contains(text);
        }
    }

    /** The TOKENS; what is none has the text "?", the end "". */
    private static List<Token> tokens(String s) {
        List<Token> list = new ArrayList<>();
        int at = 0;
        while (at < s.length()) {
            char c = s.charAt(at);
            int to = at + 1;
            if (c == ' ' || c == '\n') {
                at++;
                continue;
            }
            if (c >= 'a' && c <= 'z') {
                while (to < s.length() && s.charAt(to) >= 'a' && s.charAt(to) <= 'z') {
                    to++;
                }
            } else if (c == '-' || c >= '0' && c <= '9') {
                while (to < s.length() && s.charAt(to) >= '0' && s.charAt(to) <= '9') {
                    to++;
                }
            }
            Token t = new Token(at, s.substring(at, to));
            boolean fits = t.isWord() || t.isNumber() || t.text.equals(";") || t.text.equals(":");
            list.add(fits ? t : new Token(at, "?"));
            at = to;
        }
        list.add(new Token(s.length(), ""));
        return list;
    }

    private static final class Parser {
        private final List<Token> list;
        private int at;
        private final Program p = new Program();
        private boolean sliced;

        Parser(String s) {
            list = tokens(s);
        }

        private Token next() {
            return list.get(at);
        }

        private void need(boolean fits) {
            if (!fits) {
                throw new Fault(next().place, 1);
            }
        }

        private int number(int low, int high) {
            need(next().isNumber());
            int v = Integer.parseInt(next().text);
            if (v < low || v > high) {
                throw new Fault(next().place, 3);
            }
            at++;
            return v;
        }

        private String use() {
            need(next().isLabel());
            p.useNames.add(next().text);
            p.uses.add(new int[] {next().place});
            return list.get(at++).text;
        }

        Program all() {
            while (!next().text.isEmpty()) {
                line();
                need(next().text.equals(";"));
                at++;
            }
            for (int i = 0; i < p.uses.size(); i++) {
                if (!p.labelAt.containsKey(p.useNames.get(i))) {
                    throw new Fault(p.uses.get(i)[0], 5);
                }
            }
            for (Code c : p.code) {
                if (c.use != null) {
                    c.number = p.labelAt.get(c.use);
                }
            }
            return p;
        }

        private void line() {
            Token t = next();
            need(t.isWord());
            switch (t.text) {
                case "slice" -> {
                    if (sliced) {
                        throw new Fault(t.place, 2);
                    }
                    sliced = true;
                    at++;
                    p.slice = number(1, 60);
                }
                case "word" -> {
                    at++;
                    p.words.add(new int[] {number(0, 1), number(0, 95), number(-9999, 9999)});
                }
                case "join" -> {
                    at++;
                    int[] join = new int[4];
                    for (int k = 0; k < 4; k++) {
                        int place = next().place;
                        join[k] = number(0, 1);
                        for (int[] other : p.joins) {
                            if (k % 2 == 1 && other[k - 1] == join[k - 1] && other[k] == join[k]) {
                                throw new Fault(place, 2);
                            }
                        }
                    }
                    p.joins.add(join);
                }
                case "run" -> {
                    if (p.runs.size() == 12) {
                        throw new Fault(t.place, 4);
                    }
                    at++;
                    p.runs.add(new int[] {number(0, 1), number(5, 95), number(0, 1)});
                    p.runUse.add(use());
                }
                default -> instruction();
            }
        }

        private void instruction() {
            if (next().isLabel()) {
                String name = next().text;
                if (p.labelAt.containsKey(name)) {
                    throw new Fault(next().place, 2);
                }
                p.labels.add(name);
                p.labelAt.put(name, p.code.size());
                at++;
                need(next().text.equals(":"));
                at++;
            }
            need(OPS.contains(next().text));
            if (p.code.size() == 100) {
                throw new Fault(next().place, 4);
            }
            Code c = new Code(list.get(at++).text);
            int op = OPS.indexOf(c.op);
            if (op <= 6) {
                c.number = number(-9999, 9999);
            } else if (op <= 9) {
                c.use = use();
            }
            p.code.add(c);
        }
    }

    // ---- the machines.

    private static final class Runner {
        int w;
        int i;
        int a;
        int b;
        int c;
        int priority;
        int did;

        Runner copy() {
            Runner r = new Runner();
            r.w = w;
            r.i = i;
            r.a = a;
            r.b = b;
            r.c = c;
            r.priority = priority;
            r.did = did;
            return r;
        }

        int own() {
            return 2 * w + priority;
        }
    }

    private record Wait(int process, int time, boolean byTaltwt) {
    }

    private static final class Side {
        int sender = NONE;
        int sendAt;
        int sendLeft;
        int sendTold;
        int receiver = NONE;
        int receiveAt;
        int receiveLeft;
        Integer buffer;
        int alt = NONE;

        Side copy() {
            Side s = new Side();
            s.sender = sender;
            s.sendAt = sendAt;
            s.sendLeft = sendLeft;
            s.sendTold = sendTold;
            s.receiver = receiver;
            s.receiveAt = receiveAt;
            s.receiveLeft = receiveLeft;
            s.buffer = buffer;
            s.alt = alt;
            return s;
        }
    }

    private static final class Mach {
        int[] m = new int[96];
        int[] front = {NONE, NONE};
        int[] back = {NONE, NONE};
        int clock;
        boolean halted;
        Runner runs;
        Runner interrupted;
        List<List<Wait>> timers = List.of(new ArrayList<>(), new ArrayList<>());
        Side[] links = {new Side(), new Side()};
        List<int[]> met = new ArrayList<>();
        int kind;

        Mach copy() {
            Mach o = new Mach();
            o.take(this);
            return o;
        }

        void take(Mach o) {
            m = o.m.clone();
            front = o.front.clone();
            back = o.back.clone();
            clock = o.clock;
            halted = o.halted;
            runs = o.runs == null ? null : o.runs.copy();
            interrupted = o.interrupted == null ? null : o.interrupted.copy();
            timers = List.of(new ArrayList<>(o.timers.get(0)), new ArrayList<>(o.timers.get(1)));
            links = new Side[] {o.links[0].copy(), o.links[1].copy()};
            met = new ArrayList<>(o.met);
        }

        int get(int place) {
            must(place >= 0 && place < 96);
            return m[place];
        }

        void put(int place, int v) {
            must(place >= 0 && place < 96);
            m[place] = v;
        }

        void scheduled(int p) {
            int q = p % 2;
            if (front[q] == NONE) {
                front[q] = p;
            } else {
                put(back[q] / 2 - 2, p);
            }
            back[q] = p;
        }

        void taken(int q) {
            int p = front[q];
            must(isProcess(p));
            front[q] = p == back[q] ? NONE : get(p / 2 - 2);
            runs = new Runner();
            runs.priority = q;
            runs.w = p / 2;
            runs.i = get(p / 2 - 1);
        }

        void off() {
            put(runs.w - 1, runs.i);
            runs = null;
        }

        int timersCount() {
            return timers.get(0).size() + timers.get(1).size();
        }

        void putTimer(int p, int t, boolean byTaltwt) {
            must(timersCount() < 12);
            List<Wait> row = timers.get(p % 2);
            int at = row.size();
            for (int i = row.size() - 1; i >= 0; i--) {
                if (after(row.get(i).time, t)) {
                    at = i;
                }
            }
            row.add(at, new Wait(p, t, byTaltwt));
        }

        void awake(int v) {
            for (Wait wait : timers.get(v % 2)) {
                if (wait.process == v && wait.byTaltwt) {
                    timers.get(v % 2).remove(wait);
                    put(v / 2 - 4, -5);
                    break;
                }
            }
            scheduled(v);
        }

        void tick(Program p, int slice) {
            kind = 2;
            if (halted) {
                return;
            }
            Mach was = copy();
            try {
                choose();
                if (runs != null) {
                    int priority = runs.priority;
                    must(runs.i >= 0 && runs.i < p.code.size());
                    Code c = p.code.get(runs.i);
                    runs.i++;
                    runs.did++;
                    new Doer(this, c.op, c.number, slice).act();
                    kind = priority;
                }
            } catch (Halted e) {
                take(was);
                halted = true;
                return;
            }
            clock++;
            for (List<Wait> row : timers) {
                for (Wait wait : new ArrayList<>(row)) {
                    if (after(clock, wait.time)) {
                        for (int i = 0; i < row.size(); i++) {
                            if (row.get(i) == wait) {
                                row.remove(i);
                                break;
                            }
                        }
                        if (wait.byTaltwt) {
                            put(wait.process / 2 - 3, -4);
                            put(wait.process / 2 - 4, -6);
                            put(wait.process / 2 - 5, clock);
                        }
                        scheduled(wait.process);
                    }
                }
            }
        }

        private void choose() {
            if (runs != null && runs.priority == 1 && front[0] != NONE) {
                interrupted = runs;
                runs = null;
            }
            if (runs == null) {
                if (front[0] != NONE) {
                    taken(0);
                } else if (interrupted != null) {
                    runs = interrupted;
                    interrupted = null;
                } else if (front[1] != NONE) {
                    taken(1);
                }
            }
        }

        boolean rests() {
            return halted || runs == null && interrupted == null && front[0] == NONE && front[1] == NONE
                    && timersCount() == 0;
        }
    }

    private static boolean after(int t, int u) {
        return t - u > 0;
    }

    private static boolean isProcess(int v) {
        return v / 2 >= 5 && v / 2 <= 95 && v > 0;
    }

    /** One INSTRUCTION. */
    private static final class Doer {
        private final Mach x;
        private final Runner r;
        private final String op;
        private final int n;
        private final int slice;
        private final int w;
        private final int own;

        Doer(Mach x, String op, int n, int slice) {
            this.x = x;
            this.r = x.runs;
            this.op = op;
            this.n = n;
            this.slice = slice;
            w = r.w;
            own = r.own();
        }

        private void push(int v) {
            r.c = r.b;
            r.b = r.a;
            r.a = v;
        }

        private void pop() {
            r.a = r.b;
            r.b = r.c;
        }

        private void clear() {
            r.a = 0;
            r.b = 0;
            r.c = 0;
        }

        private void two(int v) {
            r.a = v;
            r.b = r.c;
        }

        private void fired(boolean so) {
            if (so && x.get(w) == -1) {
                x.put(w, r.a);
                r.a = 1;
            } else {
                r.a = 0;
            }
        }

        void act() {
            switch (op) {
                case "ldc", "ldpi" -> push(n);
                case "ldl" -> push(x.get(w + n));
                case "stl" -> {
                    x.put(w + n, r.a);
                    pop();
                }
                case "ldlp" -> push(w + n);
                case "adc" -> r.a += n;
                case "eqc" -> r.a = r.a == n ? 1 : 0;
                case "ajw" -> {
                    r.w += n;
                    must(r.w >= 5 && r.w <= 95);
                }
                case "j" -> {
                    r.i = n;
                    if (r.priority == 1 && r.did >= slice) {
                        x.off();
                        x.scheduled(own);
                    }
                }
                case "cj" -> {
                    if (r.a == 0) {
                        r.i = n;
                    } else {
                        pop();
                    }
                }
                case "add" -> two(r.b + r.a);
                case "sub" -> two(r.b - r.a);
                case "mul" -> two(r.b * r.a);
                case "gt" -> two(r.b > r.a ? 1 : 0);
                case "rev" -> {
                    int a = r.a;
                    r.a = r.b;
                    r.b = a;
                }
                case "dup" -> push(r.a);
                case "load" -> r.a = x.get(r.a);
                case "store" -> {
                    x.put(r.a, r.b);
                    pop();
                    pop();
                }
                default -> actOfProcess();
            }
        }

        private void actOfProcess() {
            switch (op) {
                case "startp" -> {
                    must(r.a >= 5 && r.a <= 95);
                    x.put(r.a - 1, r.b);
                    x.scheduled(2 * r.a + r.priority);
                    pop();
                    pop();
                }
                case "endp" -> {
                    x.put(r.a + 1, x.get(r.a + 1) - 1);
                    if (x.get(r.a + 1) == 0) {
                        must(r.a >= 5 && r.a <= 95);
                        r.w = r.a;
                        r.i = x.get(r.a);
                        clear();
                    } else {
                        x.runs = null;
                    }
                }
                case "stopp" -> x.off();
                case "runp" -> {
                    must(isProcess(r.a));
                    x.scheduled(r.a);
                    pop();
                }
                case "ldpri" -> push(r.priority);
                case "clock" -> push(x.clock);
                case "tin" -> {
                    if (!after(x.clock, r.a)) {
                        x.off();
                        x.putTimer(own, r.a, false);
                    }
                    clear();
                }
                case "in", "out" -> talk();
                case "halt" -> must(false);
                default -> actOfGuard();
            }
        }

        private void talk() {
            int many = r.a;
            int channel = r.b;
            int mine = r.c;
            must(many >= 1 && many <= 8);
            x.get(channel);
            for (int k = 0; k < many; k++) {
                x.get(mine + k);
            }
            clear();
            boolean out = op.equals("out");
            if (channel < 4) {
                must(out == channel < 2);
                Side side = x.links[channel % 2];
                must((out ? side.sender : side.receiver) == NONE);
                if (out) {
                    side.sender = own;
                    side.sendAt = mine;
                    side.sendLeft = many;
                    side.sendTold = many;
                } else {
                    side.receiver = own;
                    side.receiveAt = mine;
                    side.receiveLeft = many;
                }
                x.off();
                return;
            }
            int v = x.get(channel);
            if (v != -1) {
                must(isProcess(v));
                int s = x.get(v / 2 - 3);
                if (!out || s != -2 && s != -3 && s != -4) {
                    for (int k = 0; k < many; k++) {
                        if (out) {
                            x.put(s + k, x.get(mine + k));
                        } else {
                            x.put(mine + k, x.get(s + k));
                        }
                    }
                    x.put(channel, -1);
                    x.scheduled(v);
                    x.met.add(new int[] {channel, out ? own : v, out ? v : own, many});
                    return;
                }
                x.put(v / 2 - 3, -4);
                if (s == -3) {
                    x.awake(v);
                }
            }
            x.put(channel, own);
            x.put(w - 3, mine);
            x.off();
        }

        private void actOfGuard() {
            switch (op) {
                case "alt" -> x.put(w - 3, -2);
                case "talt" -> {
                    x.put(w - 3, -2);
                    x.put(w - 4, -5);
                }
                case "altwt" -> {
                    x.put(w, -1);
                    if (x.get(w - 3) != -4) {
                        x.put(w - 3, -3);
                        x.off();
                    }
                    clear();
                }
                case "taltwt" -> {
                    x.put(w, -1);
                    boolean set = x.get(w - 4) == -6;
                    if (set && after(x.clock, x.get(w - 5))) {
                        x.put(w - 3, -4);
                        x.put(w - 5, x.clock);
                    } else if (x.get(w - 3) == -4) {
                        x.put(w - 4, -5);
                    } else {
                        x.put(w - 3, -3);
                        if (set) {
                            x.putTimer(own, x.get(w - 5), true);
                        }
                        x.off();
                    }
                    clear();
                }
                case "altend" -> r.i = x.get(w);
                case "enbc" -> {
                    if (r.a != 0) {
                        enableChannel();
                    }
                    r.b = r.c;
                }
                case "enbs" -> {
                    if (r.a != 0) {
                        x.put(w - 3, -4);
                    }
                }
                case "enbt" -> {
                    if (r.a != 0) {
                        if (x.get(w - 4) == -5) {
                            x.put(w - 4, -6);
                            x.put(w - 5, r.b);
                        } else if (after(x.get(w - 5), r.b)) {
                            x.put(w - 5, r.b);
                        }
                    }
                    r.b = r.c;
                }
                case "disc" -> {
                    fired(r.b != 0 && isReadyIn());
                    r.b = 0;
                    r.c = 0;
                }
                case "diss" -> {
                    fired(r.b != 0);
                    r.b = r.c;
                }
                case "dist" -> {
                    fired(r.b != 0 && x.get(w - 4) == -6 && after(x.get(w - 5), r.c));
                    r.b = 0;
                    r.c = 0;
                }
                default -> throw new IllegalStateException(op);
            }
        }

        private void enableChannel() {
            int channel = r.b;
            int v = x.get(channel);
            must(channel > 1);
            if (channel < 4) {
                Side side = x.links[channel - 2];
                if (side.buffer != null) {
                    x.put(w - 3, -4);
                } else {
                    side.alt = own;
                }
            } else if (v == -1) {
                x.put(channel, own);
            } else if (v != own) {
                x.put(w - 3, -4);
            }
        }

        private boolean isReadyIn() {
            int channel = r.c;
            int v = x.get(channel);
            must(channel > 1);
            if (channel < 4) {
                x.links[channel - 2].alt = NONE;
                return x.links[channel - 2].buffer != null;
            }
            if (v == own) {
                x.put(channel, -1);
                return false;
            }
            return v != -1;
        }
    }

    // ---- both.

    private static final class World {
        Mach[] machines = {new Mach(), new Mach()};
        int slice = 8;
        int ticks;
        List<int[]> meetings = new ArrayList<>();

        World copy() {
            World o = new World();
            o.machines = new Mach[] {machines[0].copy(), machines[1].copy()};
            o.slice = slice;
            o.ticks = ticks;
            o.meetings = new ArrayList<>(meetings);
            return o;
        }

        void tick(Program p) {
            ticks++;
            for (int k = 0; k < 2; k++) {
                machines[k].met.clear();
                machines[k].tick(p, slice);
                for (int[] met : machines[k].met) {
                    meetings.add(new int[] {ticks, k, met[0], met[1], met[2], met[3]});
                }
            }
            for (int[] join : p.joins) {
                move(join);
            }
        }

        private void move(int[] join) {
            Mach from = machines[join[0]];
            Mach to = machines[join[2]];
            if (from.halted || to.halted) {
                return;
            }
            Side out = from.links[join[1]];
            Side in = to.links[join[3]];
            if (out.sender != NONE && out.sendLeft > 0 && in.buffer == null) {
                in.buffer = from.get(out.sendAt++);
                out.sendLeft--;
                if (in.alt != NONE) {
                    int s = to.get(in.alt / 2 - 3);
                    if (s == -2 || s == -3) {
                        to.put(in.alt / 2 - 3, -4);
                    }
                    if (s == -3) {
                        to.awake(in.alt);
                    }
                    in.alt = NONE;
                }
            }
            if (in.buffer != null && in.receiver != NONE) {
                int receiver = in.receiver;
                to.put(in.receiveAt++, in.buffer);
                in.buffer = null;
                in.receiveLeft--;
                if (in.receiveLeft == 0) {
                    to.scheduled(receiver);
                    in.receiver = NONE;
                }
                if (out.sendLeft == 0) {
                    from.scheduled(out.sender);
                    meetings.add(new int[] {ticks, join[0], join[1], out.sender, receiver, out.sendTold});
                    out.sender = NONE;
                }
            }
        }

        boolean stuck(Program p) {
            for (int[] join : p.joins) {
                Side out = machines[join[0]].links[join[1]];
                Side in = machines[join[2]].links[join[3]];
                boolean moves = out.sender != NONE && out.sendLeft > 0 && in.buffer == null
                        || in.buffer != null && in.receiver != NONE;
                if (moves && !machines[join[0]].halted && !machines[join[2]].halted) {
                    return false;
                }
            }
            return machines[0].rests() && machines[1].rests();
        }
    }

    // ---- the calls.

    private final StringBuilder tape = new StringBuilder();
    private Program p = new Program();
    private World now = new World();
    private final List<World> undo = new ArrayList<>();
    private final World[] kept = new World[2];

    PlainModel() {
        begin();
    }

    private void begin() {
        now = new World();
        now.slice = p.slice;
        for (Mach x : now.machines) {
            Arrays.fill(x.m, -1);
        }
        for (int[] word : p.words) {
            now.machines[word[0]].m[word[1]] = word[2];
        }
        for (int k = 0; k < p.runs.size(); k++) {
            int[] run = p.runs.get(k);
            now.machines[run[0]].m[run[1] - 1] = p.labelAt.get(p.runUse.get(k));
            now.machines[run[0]].scheduled(2 * run[1] + run[2]);
        }
        undo.clear();
        kept[0] = null;
        kept[1] = null;
    }

    int feed(int... five) {
        if (tape.length() + 20 > 700) {
            return NONE;
        }
        for (int number : five) {
            tape.append((char) (number >>> 24)).append((char) (number >>> 16 & 255));
            tape.append((char) (number >>> 8 & 255)).append((char) (number & 255));
        }
        return tape.length();
    }

    boolean end(int n) {
        if (n < 0 || n > tape.length()) {
            return false;
        }
        tape.setLength(n);
        return true;
    }

    int text() {
        String s = tape.toString();
        tape.setLength(0);
        try {
            p = new Parser(s).all();
        } catch (Fault f) {
            return -2 - (8 * f.place + f.kind);
        }
        begin();
        return p.code.size();
    }

    int code(int i, int what) {
        if (i < 0 || i >= p.code.size() || what != 0 && what != 1) {
            throw new NoSuchElementException();
        }
        return what == 0 ? OPS.indexOf(p.code.get(i).op) : p.code.get(i).number;
    }

    int label(int k) {
        return k < 0 || k >= p.labels.size() ? NONE : p.labelAt.get(p.labels.get(k));
    }

    private List<Integer> ways(int i, boolean byJ) {
        List<Integer> to = new ArrayList<>();
        Code c = p.code.get(i);
        if (c.op.equals("cj") || c.op.equals("j") && byJ) {
            to.add(c.number);
        }
        if (!List.of("j", "endp", "altend", "halt").contains(c.op) && i + 1 < p.code.size()) {
            to.add(i + 1);
        }
        return to;
    }

    private TreeSet<Integer> closure(TreeSet<Integer> set, boolean byJ) {
        int size = -1;
        while (size != set.size()) {
            size = set.size();
            for (int i : new ArrayList<>(set)) {
                set.addAll(ways(i, byJ));
            }
        }
        return set;
    }

    private static int pick(List<Integer> list, int k) {
        if (k == NONE) {
            return list.size();
        }
        return k < 0 || k >= list.size() ? -2 : list.get(k);
    }

    int reach(int i, int k) {
        if (i < 0 || i >= p.code.size()) {
            return NONE;
        }
        return pick(new ArrayList<>(closure(new TreeSet<>(List.of(i)), true)), k);
    }

    int hog(int k) {
        List<Integer> list = new ArrayList<>();
        for (int i = 0; i < p.code.size(); i++) {
            if (closure(new TreeSet<>(ways(i, false)), false).contains(i)) {
                list.add(i);
            }
        }
        return pick(list, k);
    }

    private void act() {
        undo.add(now.copy());
        if (undo.size() > 8) {
            undo.remove(0);
        }
    }

    int slice(int n) {
        if (n < 1 || n > 60) {
            return NONE;
        }
        act();
        int was = now.slice;
        now.slice = n;
        return was;
    }

    private static boolean isMachine(int m) {
        return m == 0 || m == 1;
    }

    private static boolean isWord(int m, int place) {
        return isMachine(m) && place >= 0 && place <= 95;
    }

    boolean poke(int m, int place, int v) {
        if (!isWord(m, place)) {
            return false;
        }
        act();
        now.machines[m].m[place] = v;
        return true;
    }

    boolean start(int m, int w, int priority, int i) {
        if (!isMachine(m) || w < 5 || w > 95 || priority != 0 && priority != 1 || i < 0 || i >= p.code.size()
                || now.machines[m].halted) {
            return false;
        }
        act();
        now.machines[m].m[w - 1] = i;
        now.machines[m].scheduled(2 * w + priority);
        return true;
    }

    int tick(int n) {
        if (n < 1 || n > 300) {
            return NONE;
        }
        act();
        int had = now.meetings.size();
        for (int t = 0; t < n; t++) {
            now.tick(p);
        }
        return now.meetings.size() - had;
    }

    int undo() {
        if (undo.isEmpty()) {
            return NONE;
        }
        now = undo.remove(undo.size() - 1);
        return undo.size();
    }

    int machine(int m, int what) {
        if (!isMachine(m)) {
            return NONE;
        }
        Mach x = now.machines[m];
        Runner r = x.runs;
        return switch (what) {
            case 0 -> r == null ? NONE : r.a;
            case 1 -> r == null ? NONE : r.b;
            case 2 -> r == null ? NONE : r.c;
            case 3 -> r == null ? NONE : r.i;
            case 4 -> r == null ? NONE : r.w;
            case 5 -> r == null ? NONE : r.priority;
            case 6 -> x.clock;
            case 7 -> x.halted ? 1 : 0;
            case 8 -> r == null ? 0 : r.did;
            case 9 -> x.interrupted == null ? NONE : x.interrupted.own();
            case 10 -> x.timersCount();
            default -> NONE;
        };
    }

    int word(int m, int place) {
        if (!isWord(m, place)) {
            throw new NoSuchElementException();
        }
        return now.machines[m].m[place];
    }

    int queue(int m, int priority, int i) {
        if (!isMachine(m) || priority != 0 && priority != 1) {
            return NONE;
        }
        Mach x = now.machines[m];
        List<Integer> list = new ArrayList<>();
        int at = x.front[priority];
        while (isProcess(at) && list.size() < 48) {
            list.add(at);
            if (at == x.back[priority]) {
                break;
            }
            at = x.get(at / 2 - 2);
        }
        return pick(list, i);
    }

    int timer(int m, int i, int what) {
        if (!isMachine(m)) {
            return NONE;
        }
        List<Wait> all = new ArrayList<>(now.machines[m].timers.get(0));
        all.addAll(now.machines[m].timers.get(1));
        if (i == NONE && what == 0) {
            return all.size();
        }
        if (i < 0 || i >= all.size() || what != 0 && what != 1) {
            return NONE;
        }
        return what == 0 ? all.get(i).process : all.get(i).time;
    }

    int link(int m, int k, int what) {
        if (!isMachine(m) || k != 0 && k != 1) {
            return NONE;
        }
        Side s = now.machines[m].links[k];
        return switch (what) {
            case 0 -> s.sender;
            case 1 -> s.sender == NONE ? 0 : s.sendLeft;
            case 2 -> s.receiver;
            case 3 -> s.receiver == NONE ? 0 : s.receiveLeft;
            case 4 -> s.buffer == null ? 0 : 1;
            case 5 -> s.buffer == null ? 0 : s.buffer;
            case 6 -> s.alt;
            default -> NONE;
        };
    }

    int meeting(int i, int what) {
        List<int[]> all = now.meetings;
        List<int[]> last = all.subList(Math.max(0, all.size() - 30), all.size());
        return i < 0 || i >= last.size() || what < 0 || what > 5 ? NONE : last.get(i)[what];
    }

    boolean stuck() {
        return now.stuck(p);
    }

    int ahead(int n, int what) {
        if (n < 0 || n > 300 || what < 0 || what > 3) {
            return NONE;
        }
        World w = now.copy();
        int stuckAt = -2;
        int haltedAt = -2;
        for (int t = 0; t <= n; t++) {
            if (stuckAt == -2 && w.stuck(p)) {
                stuckAt = t;
            }
            if (haltedAt == -2 && (w.machines[0].halted || w.machines[1].halted)) {
                haltedAt = t;
            }
            if (t < n) {
                w.tick(p);
            }
        }
        return switch (what) {
            case 0 -> w.meetings.size() - now.meetings.size();
            case 1 -> (w.machines[0].halted ? 1 : 0) | (w.machines[1].halted ? 2 : 0);
            case 2 -> stuckAt;
            default -> haltedAt;
        };
    }

    int share(int m, int kind, int n) {
        if (!isMachine(m) || kind < 0 || kind > 2 || n < 1 || n > 300) {
            return NONE;
        }
        World w = now.copy();
        int times = 0;
        for (int t = 0; t < n; t++) {
            w.tick(p);
            times += w.machines[m].kind == kind ? 1 : 0;
        }
        return times;
    }

    int until(int m, int place, int v, int n) {
        if (!isWord(m, place) || n < 0 || n > 300) {
            return NONE;
        }
        World w = now.copy();
        for (int t = 0; t <= n; t++) {
            if (w.machines[m].m[place] == v) {
                return t;
            }
            w.tick(p);
        }
        return -2;
    }

    int slices(int m, int place, int n) {
        if (!isWord(m, place) || n < 0 || n > 200) {
            return NONE;
        }
        TreeSet<Integer> words = new TreeSet<>();
        for (int s = 1; s <= 16; s++) {
            World w = now.copy();
            w.slice = s;
            for (int t = 0; t < n; t++) {
                w.tick(p);
            }
            words.add(w.machines[m].m[place]);
        }
        return words.size();
    }

    boolean keep(int k) {
        if (k != 0 && k != 1) {
            return false;
        }
        kept[k] = now.copy();
        return true;
    }

    boolean back(int k) {
        if (k != 0 && k != 1 || kept[k] == null) {
            return false;
        }
        now = kept[k].copy();
        undo.clear();
        return true;
    }

    int count(int what) {
        return switch (what) {
            case 0 -> p.code.size();
            case 1 -> p.labels.size();
            case 2 -> p.joins.size();
            case 3 -> now.slice;
            case 4 -> now.ticks;
            case 5 -> now.meetings.size();
            case 6 -> undo.size();
            case 7 -> tape.length();
            default -> NONE;
        };
    }
}
