import java.util.Arrays;
import java.util.NoSuchElementException;

/**
 * Two machines of meeting processes. ../shared/DOC.md says what the words in capital letters mean and what
 * each public call promises.
 */
public final class MeetingMachines {
    public static final int NONE = -1;

    /** What a call answers where there is something to ask for, but not this. */
    private static final int LACKING = -2;

    private static final int HOW_MANY_MACHINES = 2;
    private static final int MEMORY_SIZE = 96;
    private static final int LEAST_W = 5;
    private static final int MOST_W = 95;
    private static final int HIGH = 0;
    private static final int LOW = 1;
    private static final int IDLE = 2;
    private static final int LINKS = 2;

    private static final int TAPE_SIZE = 700;
    private static final int MOST_SLICE = 60;
    private static final int MOST_TICKS = 300;
    private static final int MOST_TICKS_OF_SLICES = 200;
    private static final int TRIED_SLICES = 16;
    private static final int MOST_IN_QUEUE = 48;
    private static final int KEPT_PLACES = 2;

    private static final int LDC = 0;
    private static final int LDL = 1;
    private static final int STL = 2;
    private static final int LDLP = 3;
    private static final int ADC = 4;
    private static final int EQC = 5;
    private static final int AJW = 6;
    private static final int J = 7;
    private static final int CJ = 8;
    private static final int LDPI = 9;
    private static final int ADD = 10;
    private static final int SUB = 11;
    private static final int MUL = 12;
    private static final int GT = 13;
    private static final int REV = 14;
    private static final int DUP = 15;
    private static final int LOAD = 16;
    private static final int STORE = 17;
    private static final int STARTP = 18;
    private static final int ENDP = 19;
    private static final int STOPP = 20;
    private static final int RUNP = 21;
    private static final int LDPRI = 22;
    private static final int CLOCK_OP = 23;
    private static final int TIN = 24;
    private static final int IN = 25;
    private static final int OUT = 26;
    private static final int ALT = 27;
    private static final int ALTWT = 28;
    private static final int ALTEND = 29;
    private static final int ENBC = 30;
    private static final int DISC = 31;
    private static final int ENBS = 32;
    private static final int DISS = 33;
    private static final int TALT = 34;
    private static final int TALTWT = 35;
    private static final int ENBT = 36;
    private static final int DIST = 37;
    private static final int HALT = 38;
    private static final int OPS = 39;

    private final byte[] tape = new byte[TAPE_SIZE];
    private int tapeSize;
    private final Reader reader = new Reader();
    private Program program = new Program();
    private Program spare = new Program();
    private final World now = new World();
    private final World trial = new World();
    private final History history = new History();
    private final World[] kept = {new World(), new World()};
    private final boolean[] isKept = new boolean[KEPT_PLACES];
    private final Ways ways = new Ways();
    private final int[] found = new int[TRIED_SLICES];

    public MeetingMachines() {
        now.begin(program);
    }

    public int feed(int a, int b, int c, int d, int e) {
        if (tapeSize > TAPE_SIZE - 20) {
            return NONE;
        }
        append(a);
        append(b);
        append(c);
        append(d);
        append(e);
        return tapeSize;
    }

    private void append(int number) {
        for (int shift = 24; shift >= 0 && tapeSize < TAPE_SIZE; shift -= 8) {
            tape[tapeSize] = (byte) (number >> shift);
            tapeSize++;
        }
    }

    public boolean end(int n) {
        if (n < 0 || n > tapeSize) {
            return false;
        }
        tapeSize = n;
        return true;
    }

    public int text() {
        int fault = reader.read(tape, tapeSize, spare);
        tapeSize = 0;
        if (fault != NONE) {
            return -2 - fault;
        }
        Program old = program;
        program = spare;
        spare = old;
        now.begin(program);
        history.forget();
        isKept[0] = false;
        isKept[1] = false;
        return program.size;
    }

    // ---- the program.

    public int code(int i, int what) throws NoSuchElementException {
        if (i < 0 || i >= program.size || what < 0 || what > 1) {
            throw new NoSuchElementException();
        }
        return what == 0 ? program.op[i] : program.number[i];
    }

    public int label(int k) {
        return k < 0 || k >= program.labels ? NONE : program.labelAt[k];
    }

    public int reach(int i, int k) {
        if (i < 0 || i >= program.size) {
            return NONE;
        }
        ways.comeFrom(program, i);
        return ways.pick(k);
    }

    public int hog(int k) {
        ways.comeBack(program);
        return ways.pick(k);
    }

    // ---- by hand.

    public int slice(int n) {
        if (n < 1 || n > MOST_SLICE) {
            return NONE;
        }
        history.remember(now);
        int old = now.slice;
        now.slice = n;
        return old;
    }

    public boolean poke(int machine, int place, int v) {
        if (!isMachine(machine) || !isPlace(place)) {
            return false;
        }
        history.remember(now);
        now.machines[machine].memory[place] = v;
        return true;
    }

    public boolean start(int machine, int w, int priority, int i) {
        if (!isMachine(machine) || !isW(w) || !isPriority(priority) || i < 0 || i >= program.size
                || now.machines[machine].isHalted()) {
            return false;
        }
        history.remember(now);
        now.machines[machine].beginProcess(w, priority, i);
        return true;
    }

    public int tick(int n) {
        if (n < 1 || n > MOST_TICKS) {
            return NONE;
        }
        history.remember(now);
        int meetingsAhead = now.diary.total;
        for (int t = 0; t < n; t++) {
            now.pass(program);
        }
        return now.diary.total - meetingsAhead;
    }

    public int undo() {
        return history.recall(now);
    }

    // ---- what there is.

    public int machine(int machine, int what) {
        return isMachine(machine) ? now.machines[machine].tell(what) : NONE;
    }

    public int word(int machine, int place) throws NoSuchElementException {
        if (!isMachine(machine) || !isPlace(place)) {
            throw new NoSuchElementException();
        }
        return now.machines[machine].memory[place];
    }

    public int queue(int machine, int priority, int i) {
        if (!isMachine(machine) || !isPriority(priority)) {
            return NONE;
        }
        return now.machines[machine].inQueue(priority, i);
    }

    public int timer(int machine, int i, int what) {
        return isMachine(machine) ? now.machines[machine].timers.tell(i, what) : NONE;
    }

    public int link(int machine, int k, int what) {
        if (!isMachine(machine) || k < 0 || k >= LINKS) {
            return NONE;
        }
        return now.machines[machine].links[k].tell(what);
    }

    public int meeting(int i, int what) {
        return now.diary.tell(i, what);
    }

    public boolean stuck() {
        return now.isStuck(program);
    }

    // ---- what will be.

    public int ahead(int n, int what) {
        if (n < 0 || n > MOST_TICKS || what < 0 || what > 3) {
            return NONE;
        }
        trial.copy(now);
        int first = isSoFirst(what) ? 0 : LACKING;
        for (int t = 1; t <= n && first == LACKING; t++) {
            trial.pass(program);
            if (isSoFirst(what)) {
                first = t;
            }
        }
        switch (what) {
            case 0:
                return trial.diary.total - now.diary.total;
            case 1:
                return trial.haltedBits();
            default:
                return first;
        }
    }

    /** Whether what is asked first is so in the trial: all STUCK, a machine HALTED. */
    private boolean isSoFirst(int what) {
        return what == 2 && trial.isStuck(program) || what == 3 && trial.haltedBits() != 0;
    }

    public int share(int machine, int p, int n) {
        if (!isMachine(machine) || p < HIGH || p > IDLE || n < 1 || n > MOST_TICKS) {
            return NONE;
        }
        trial.copy(now);
        int times = 0;
        for (int t = 0; t < n; t++) {
            trial.pass(program);
            if (trial.machines[machine].did == p) {
                times++;
            }
        }
        return times;
    }

    public int until(int machine, int place, int v, int n) {
        if (!isMachine(machine) || !isPlace(place) || n < 0 || n > MOST_TICKS) {
            return NONE;
        }
        trial.copy(now);
        for (int t = 0; t <= n; t++) {
            if (trial.machines[machine].memory[place] == v) {
                return t;
            }
            trial.pass(program);
        }
        return LACKING;
    }

    public int slices(int machine, int place, int n) {
        if (!isMachine(machine) || !isPlace(place) || n < 0 || n > MOST_TICKS_OF_SLICES) {
            return NONE;
        }
        int unlike = 0;
        for (int s = 1; s <= TRIED_SLICES; s++) {
            trial.copy(now);
            trial.slice = s;
            for (int t = 0; t < n; t++) {
                trial.pass(program);
            }
            int word = trial.machines[machine].memory[place];
            if (!isFound(word, unlike)) {
                found[unlike] = word;
                unlike++;
            }
        }
        return unlike;
    }

    private boolean isFound(int word, int howMany) {
        for (int i = 0; i < howMany; i++) {
            if (found[i] == word) {
                return true;
            }
        }
        return false;
    }

    // ---- kept.

    public boolean keep(int k) {
        if (k < 0 || k >= KEPT_PLACES) {
            return false;
        }
        kept[k].copy(now);
        isKept[k] = true;
        return true;
    }

    public boolean back(int k) {
        if (k < 0 || k >= KEPT_PLACES || !isKept[k]) {
            return false;
        }
        now.copy(kept[k]);
        history.forget();
        return true;
    }

    public int count(int what) {
        switch (what) {
            case 0:
                return program.size;
            case 1:
                return program.labels;
            case 2:
                return program.joins;
            case 3:
                return now.slice;
            case 4:
                return now.diary.ticks;
            case 5:
                return now.diary.total;
            case 6:
                return history.size;
            case 7:
                return tapeSize;
            default:
                return NONE;
        }
    }

    private static boolean isMachine(int m) {
        return m >= 0 && m < HOW_MANY_MACHINES;
    }

    private static boolean isPlace(int place) {
        return place >= 0 && place < MEMORY_SIZE;
    }

    /** Whether so many words (few) from a place on all are places. */
    private static boolean arePlaces(int first, int many) {
        return first >= 0 && first <= MEMORY_SIZE - many;
    }

    private static boolean isW(int w) {
        return w >= LEAST_W && w <= MOST_W;
    }

    private static boolean isPriority(int priority) {
        return priority == HIGH || priority == LOW;
    }

    private static boolean isProcess(int word) {
        return word >= 2 * LEAST_W && word <= 2 * MOST_W + LOW;
    }

    /** By the wrapped difference: not the same as t > u when the two are far apart. */
    private static boolean isAfter(int t, int u) {
        return t - u > 0;
    }

    /** What a text told: INSTRUCTIONS, LABELS, JOINS, and how both machines are at first. */
    private static final class Program {
        static final int MOST_CODE = 100;
        static final int MOST_RUNS = 12;
        private static final int MOST_JOINS = HOW_MANY_MACHINES * LINKS;
        private static final int FIRST_SLICE = 8;

        int slice;
        int size;
        final int[] op = new int[MOST_CODE];
        final int[] number = new int[MOST_CODE];
        int labels;
        // one more than INSTRUCTIONS: the LABEL ahead of the one too many is told before its OP is a FAULT
        final int[] labelName = new int[MOST_CODE + 1];
        final int[] labelAt = new int[MOST_CODE + 1];
        int joins;
        final int[] sender = new int[MOST_JOINS];
        final int[] sendLink = new int[MOST_JOINS];
        final int[] receiver = new int[MOST_JOINS];
        final int[] receiveLink = new int[MOST_JOINS];
        int runs;
        final int[] runMachine = new int[MOST_RUNS];
        final int[] runW = new int[MOST_RUNS];
        final int[] runPriority = new int[MOST_RUNS];
        final int[] runAt = new int[MOST_RUNS];
        final int[] memory = new int[HOW_MANY_MACHINES * MEMORY_SIZE];

        Program() {
            empty();
        }

        void empty() {
            slice = FIRST_SLICE;
            size = 0;
            labels = 0;
            joins = 0;
            runs = 0;
            Arrays.fill(memory, NONE);
        }

        void setWord(int machine, int place, int v) {
            memory[machine * MEMORY_SIZE + place] = v;
        }

        void addLabel(int name) {
            if (labels < labelName.length) {
                labelName[labels] = name;
                labelAt[labels] = size;
                labels++;
            }
        }

        void addInstruction(int itsOp, int itsNumber) {
            if (size < MOST_CODE) {
                op[size] = itsOp;
                number[size] = itsNumber;
                size++;
            }
        }

        void addJoin(int fromMachine, int fromLink, int toMachine, int toLink) {
            if (joins < MOST_JOINS) {
                sender[joins] = fromMachine;
                sendLink[joins] = fromLink;
                receiver[joins] = toMachine;
                receiveLink[joins] = toLink;
                joins++;
            }
        }

        void addRun(int machine, int w, int priority) {
            if (runs < MOST_RUNS) {
                runMachine[runs] = machine;
                runW[runs] = w;
                runPriority[runs] = priority;
                runAt[runs] = 0;
                runs++;
            }
        }

        /** The INSTRUCTION of a LABEL; NONE if it is told nowhere. */
        int placeOf(int name) {
            for (int k = 0; k < labels; k++) {
                if (labelName[k] == name) {
                    return labelAt[k];
                }
            }
            return NONE;
        }

        boolean isSending(int machine, int link) {
            for (int j = 0; j < joins; j++) {
                if (sender[j] == machine && sendLink[j] == link) {
                    return true;
                }
            }
            return false;
        }

        boolean isReceiving(int machine, int link) {
            for (int j = 0; j < joins; j++) {
                if (receiver[j] == machine && receiveLink[j] == link) {
                    return true;
                }
            }
            return false;
        }
    }

    /** Reads a tape as a PROGRAM. It goes from the left and stops at a FAULT, so the first found is the least. */
    private static final class Reader {
        private static final String TOLD_OPS = "ldc ldl stl ldlp adc eqc ajw j cj ldpi ";
        private static final String WORD_OPS = "add sub mul gt rev dup load store ";
        private static final String PROCESS_OPS = "startp endp stopp runp ldpri clock tin in out ";
        private static final String GUARD_OPS = "alt altwt altend enbc disc enbs diss talt taltwt enbt dist halt ";
        private static final String OTHER_NAMES = "slice word join run ";
        private static final int SLICE = OPS;
        private static final int WORD = OPS + 1;
        private static final int JOIN = OPS + 2;
        private static final int RUN = OPS + 3;
        private static final int HOW_MANY_NAMES = OPS + 4;

        // kinds of TOKENS; the signs stand for themselves
        private static final int END = 0;
        private static final int NO_TOKEN = 1;
        private static final int LETTERS = 2;
        private static final int DIGITS = 3;

        private static final int UNFIT = 1;
        private static final int AGAIN = 2;
        private static final int OUT_OF_BOUNDS = 3;
        private static final int TOO_MANY = 4;
        private static final int TOLD_NOWHERE = 5;

        private static final int MOST_LETTERS = 6;
        private static final int MOST_DIGITS = 4;
        private static final int MOST_NUMBER = 9999;
        private static final int MOST_USES = Program.MOST_CODE + Program.MOST_RUNS;

        private final int[] names = new int[HOW_MANY_NAMES];
        private byte[] bytes = new byte[0];
        private int size;
        private Program program = new Program();
        private boolean isSliceTold;

        private int kind;
        private int place;
        private int behind;
        private int value;

        private int fault;
        private int uses;
        private final int[] useName = new int[MOST_USES];
        private final int[] usePlace = new int[MOST_USES];
        // whose LABEL it is: an INSTRUCTION's, or a run's, with MOST_CODE added to tell the two apart
        private final int[] user = new int[MOST_USES];

        Reader() {
            int known = addNames(TOLD_OPS, 0);
            known = addNames(WORD_OPS, known);
            known = addNames(PROCESS_OPS, known);
            known = addNames(GUARD_OPS, known);
            addNames(OTHER_NAMES, known);
        }

        /** Puts names behind those known already; answers how many are known then. */
        private int addNames(String list, int known) {
            int packed = 0;
            for (int i = 0; i < list.length() && known < HOW_MANY_NAMES; i++) {
                if (list.charAt(i) == ' ') {
                    names[known] = packed;
                    known++;
                    packed = 0;
                } else {
                    packed = pack(packed, list.charAt(i));
                }
            }
            return known;
        }

        /** Six letters of five bits each make one number, so a WORD needs no text of its own. */
        private static int pack(int packed, int letter) {
            return packed * 32 + (letter - 'a' + 1);
        }

        /** Fills a PROGRAM; answers 8 * place + kind of a FAULT, NONE without. */
        int read(byte[] from, int howMany, Program target) {
            bytes = from;
            size = Math.min(howMany, from.length);
            program = target;
            program.empty();
            isSliceTold = false;
            behind = 0;
            fault = NONE;
            uses = 0;
            scan();
            for (int line = 0; line <= size && kind != END && fault == NONE; line++) {
                readLine();
            }
            findUses();
            return fault;
        }

        private void fail(int at, int faultKind) {
            if (fault == NONE) {
                fault = 8 * at + faultKind;
            }
        }

        private void findUses() {
            for (int u = 0; u < uses && fault == NONE; u++) {
                int i = program.placeOf(useName[u]);
                if (i == NONE) {
                    fail(usePlace[u], TOLD_NOWHERE);
                } else if (user[u] < Program.MOST_CODE) {
                    program.number[user[u]] = i;
                } else {
                    program.runAt[user[u] - Program.MOST_CODE] = i;
                }
            }
        }

        // ---- TOKENS.

        private void scan() {
            int at = behind;
            while (at < size && (bytes[at] == ' ' || bytes[at] == '\n')) {
                at++;
            }
            place = at;
            if (at >= size) {
                kind = END;
            } else if (isLetter(bytes[at])) {
                scanWord();
            } else if (bytes[at] == '-' || isDigit(bytes[at])) {
                scanNumber();
            } else {
                kind = bytes[at] == ';' || bytes[at] == ':' ? bytes[at] : NO_TOKEN;
                behind = at + 1;
            }
        }

        private static boolean isLetter(byte sign) {
            return sign >= 'a' && sign <= 'z';
        }

        private static boolean isDigit(byte sign) {
            return sign >= '0' && sign <= '9';
        }

        private void scanWord() {
            int at = place;
            value = 0;
            while (at < size && isLetter(bytes[at])) {
                value = pack(value, bytes[at]);
                at++;
            }
            kind = at - place > MOST_LETTERS ? NO_TOKEN : LETTERS;
            behind = at;
        }

        private void scanNumber() {
            boolean isBelow = bytes[place] == '-';
            int first = isBelow ? place + 1 : place;
            int at = first;
            value = 0;
            while (at < size && isDigit(bytes[at])) {
                value = value * 10 + (bytes[at] - '0');
                at++;
            }
            if (isBelow) {
                value = -value;
            }
            kind = at == first || at - first > MOST_DIGITS ? NO_TOKEN : DIGITS;
            behind = at;
        }

        /** Which name of the language the TOKEN is, NONE if none. */
        private int name() {
            for (int k = 0; k < HOW_MANY_NAMES && kind == LETTERS; k++) {
                if (names[k] == value) {
                    return k;
                }
            }
            return NONE;
        }

        // ---- LINES.

        private void readLine() {
            int name = name();
            if (name == SLICE) {
                readSlice();
            } else if (name == WORD) {
                readWord();
            } else if (name == JOIN) {
                readJoin();
            } else if (name == RUN) {
                readRun();
            } else {
                readInstruction();
            }
            takeSign(';');
        }

        private void readSlice() {
            if (isSliceTold) {
                fail(place, AGAIN);
                return;
            }
            isSliceTold = true;
            scan();
            program.slice = takeNumber(1, MOST_SLICE);
        }

        private void readWord() {
            scan();
            int machine = takeNumber(0, HOW_MANY_MACHINES - 1);
            int at = takeNumber(0, MEMORY_SIZE - 1);
            int v = takeNumber(-MOST_NUMBER, MOST_NUMBER);
            program.setWord(machine, at, v);
        }

        private void readJoin() {
            scan();
            int from = takeNumber(0, HOW_MANY_MACHINES - 1);
            int at = place;
            int out = takeNumber(0, LINKS - 1);
            if (program.isSending(from, out)) {
                fail(at, AGAIN);
            }
            int to = takeNumber(0, HOW_MANY_MACHINES - 1);
            at = place;
            int in = takeNumber(0, LINKS - 1);
            if (program.isReceiving(to, in)) {
                fail(at, AGAIN);
            }
            program.addJoin(from, out, to, in);
        }

        private void readRun() {
            if (program.runs >= Program.MOST_RUNS) {
                fail(place, TOO_MANY);
                return;
            }
            scan();
            int machine = takeNumber(0, HOW_MANY_MACHINES - 1);
            int w = takeNumber(LEAST_W, MOST_W);
            int priority = takeNumber(HIGH, LOW);
            takeUse(Program.MOST_CODE + program.runs);
            program.addRun(machine, w, priority);
        }

        private void readInstruction() {
            if (kind == LETTERS && name() == NONE) {
                readLabel();
                takeSign(':');
            }
            int op = name();
            if (op == NONE || op >= OPS) {
                fail(place, UNFIT);
            } else if (program.size >= Program.MOST_CODE) {
                fail(place, TOO_MANY);
            }
            if (fault != NONE) {
                return;
            }
            scan();
            int number = 0;
            if (op < J) {
                number = takeNumber(-MOST_NUMBER, MOST_NUMBER);
            } else if (op < ADD) {
                takeUse(program.size);
            }
            program.addInstruction(op, number);
        }

        private void readLabel() {
            if (program.placeOf(value) != NONE) {
                fail(place, AGAIN);
                return;
            }
            program.addLabel(value);
            scan();
        }

        private void takeSign(int sign) {
            if (kind != sign) {
                fail(place, UNFIT);
            }
            if (fault == NONE) {
                scan();
            }
        }

        private int takeNumber(int least, int most) {
            if (kind != DIGITS) {
                fail(place, UNFIT);
            } else if (value < least || value > most) {
                fail(place, OUT_OF_BOUNDS);
            }
            if (fault != NONE) {
                return least;
            }
            int number = value;
            scan();
            return number;
        }

        private void takeUse(int whose) {
            if (kind != LETTERS || name() != NONE) {
                fail(place, UNFIT);
            }
            if (fault == NONE && uses < MOST_USES) {
                useName[uses] = value;
                usePlace[uses] = place;
                user[uses] = whose;
                uses++;
                scan();
            }
        }
    }

    /** The TICKS that went by, and the MEETINGS in them. */
    private static final class Diary {
        private static final int MOST = 30;
        private static final int PARTS = 6;

        int ticks;
        int total;
        private final int[] meetings = new int[MOST * PARTS];

        void empty() {
            ticks = 0;
            total = 0;
        }

        void note(int machine, int place, int sender, int receiver, int words) {
            int row = total % MOST * PARTS;
            meetings[row] = ticks;
            meetings[row + 1] = machine;
            meetings[row + 2] = place;
            meetings[row + 3] = sender;
            meetings[row + 4] = receiver;
            meetings[row + 5] = words;
            total++;
        }

        int tell(int i, int what) {
            int size = Math.min(total, MOST);
            if (i < 0 || i >= size || what < 0 || what >= PARTS) {
                return NONE;
            }
            return meetings[(total - size + i) % MOST * PARTS + what];
        }

        void copy(Diary other) {
            ticks = other.ticks;
            total = other.total;
            System.arraycopy(other.meetings, 0, meetings, 0, meetings.length);
        }
    }

    /** Those of a machine who wait for a time: HIGH ones first. */
    private static final class Timers {
        private static final int MOST = 12;

        int size;
        final int[] process = new int[MOST];
        final int[] time = new int[MOST];
        final boolean[] isByTaltwt = new boolean[MOST];

        boolean isFull() {
            return size >= MOST;
        }

        void put(int p, int t, boolean byTaltwt) {
            if (isFull()) {
                return;
            }
            int priority = p & 1;
            int at = 0;
            while (at < size && (process[at] & 1) < priority) {
                at++;
            }
            while (at < size && (process[at] & 1) == priority && !isAfter(time[at], t)) {
                at++;
            }
            for (int i = size; i > at; i--) {
                process[i] = process[i - 1];
                time[i] = time[i - 1];
                isByTaltwt[i] = isByTaltwt[i - 1];
            }
            process[at] = p;
            time[at] = t;
            isByTaltwt[at] = byTaltwt;
            size++;
        }

        void remove(int at) {
            if (at < 0 || at >= size) {
                return;
            }
            size--;
            for (int i = at; i < size; i++) {
                process[i] = process[i + 1];
                time[i] = time[i + 1];
                isByTaltwt[i] = isByTaltwt[i + 1];
            }
        }

        /** Where a process stands first that came by taltwt; NONE if nowhere. */
        int findByTaltwt(int p) {
            for (int i = 0; i < size; i++) {
                if (process[i] == p && isByTaltwt[i]) {
                    return i;
                }
            }
            return NONE;
        }

        int tell(int i, int what) {
            if (i == NONE && what == 0) {
                return size;
            }
            if (i < 0 || i >= size || what < 0 || what > 1) {
                return NONE;
            }
            return what == 0 ? process[i] : time[i];
        }

        void copy(Timers other) {
            size = other.size;
            System.arraycopy(other.process, 0, process, 0, MOST);
            System.arraycopy(other.time, 0, time, 0, MOST);
            System.arraycopy(other.isByTaltwt, 0, isByTaltwt, 0, MOST);
        }
    }

    /** A LINK: who sends by it, who receives by it, and the BUFFER and the ALT of the side that receives. */
    private static final class Link {
        int sender;
        int sendPlace;
        int sendLeft;
        int sendTold;
        int receiver;
        int receivePlace;
        int receiveLeft;
        boolean isFull;
        int buffer;
        int alt;

        void empty() {
            endSending();
            endReceiving();
            isFull = false;
            buffer = 0;
            alt = NONE;
        }

        void beginSending(int p, int from, int many) {
            sender = p;
            sendPlace = from;
            sendLeft = many;
            sendTold = many;
        }

        void endSending() {
            beginSending(NONE, 0, 0);
        }

        void beginReceiving(int p, int to, int many) {
            receiver = p;
            receivePlace = to;
            receiveLeft = many;
        }

        void endReceiving() {
            beginReceiving(NONE, 0, 0);
        }

        boolean hasToSend() {
            return sender != NONE && sendLeft > 0;
        }

        boolean canReceive() {
            return isFull && receiver != NONE;
        }

        int tell(int what) {
            switch (what) {
                case 0:
                    return sender;
                case 1:
                    return sendLeft;
                case 2:
                    return receiver;
                case 3:
                    return receiveLeft;
                case 4:
                    return isFull ? 1 : 0;
                case 5:
                    return isFull ? buffer : 0;
                case 6:
                    return alt;
                default:
                    return NONE;
            }
        }

        void copy(Link other) {
            beginSending(other.sender, other.sendPlace, other.sendLeft);
            sendTold = other.sendTold;
            beginReceiving(other.receiver, other.receivePlace, other.receiveLeft);
            isFull = other.isFull;
            buffer = other.buffer;
            alt = other.alt;
        }
    }

    /**
     * One machine: who runs, its QUEUES, MEMORY, TIMERS and LINKS. W, and the process words that stand outside MEMORY
     * (but for a FRONT), were looked at as they came in, so the words around them are there.
     */
    private static final class Machine {
        private static final int ENABLING = -2;
        private static final int WAITING = -3;
        private static final int READY = -4;
        private static final int NOTSET = -5;
        private static final int SET = -6;

        // who runs, in the order that the call machine asks in; W is NONE if nobody does
        private static final int A = 0;
        private static final int B = 1;
        private static final int C = 2;
        private static final int I = 3;
        private static final int W = 4;
        private static final int PRIORITY = 5;
        private static final int DONE = 6;
        private static final int OF_PROCESS = 7;
        // the same of who is INTERRUPTED
        private static final int INTERRUPTED = 7;
        // two each, by PRIORITY
        private static final int FRONT = 14;
        private static final int BACK = 16;
        private static final int CLOCK = 18;
        private static final int HALTED = 19;
        private static final int REGISTERS = 20;

        private static final int MOST_WORDS = 8;

        private final int number;
        private final Diary diary;
        private final int[] reg = new int[REGISTERS];
        private final int[] regAhead = new int[REGISTERS];
        final int[] memory = new int[MEMORY_SIZE];
        final Timers timers = new Timers();
        final Link[] links = {new Link(), new Link()};
        /** Whose INSTRUCTION the latest TICK did: HIGH, LOW or IDLE. */
        int did;

        Machine(int itsNumber, Diary itsDiary) {
            number = itsNumber;
            diary = itsDiary;
        }

        void begin(Program program) {
            Arrays.fill(reg, 0);
            reg[W] = NONE;
            reg[INTERRUPTED + W] = NONE;
            for (int priority = HIGH; priority <= LOW; priority++) {
                reg[FRONT + priority] = NONE;
                reg[BACK + priority] = NONE;
            }
            System.arraycopy(program.memory, number * MEMORY_SIZE, memory, 0, MEMORY_SIZE);
            timers.size = 0;
            links[0].empty();
            links[1].empty();
            for (int r = 0; r < program.runs; r++) {
                if (program.runMachine[r] == number) {
                    beginProcess(program.runW[r], program.runPriority[r], program.runAt[r]);
                }
            }
        }

        void copy(Machine other) {
            System.arraycopy(other.reg, 0, reg, 0, REGISTERS);
            System.arraycopy(other.memory, 0, memory, 0, MEMORY_SIZE);
            timers.copy(other.timers);
            links[0].copy(other.links[0]);
            links[1].copy(other.links[1]);
        }

        void beginProcess(int w, int priority, int i) {
            memory[w - 1] = i;
            schedule(2 * w + priority);
        }

        boolean isHalted() {
            return reg[HALTED] != 0;
        }

        boolean isAtRest() {
            return isHalted() || !isRunning() && reg[INTERRUPTED + W] == NONE && reg[FRONT + HIGH] == NONE
                    && reg[FRONT + LOW] == NONE && timers.size == 0;
        }

        private boolean isRunning() {
            return reg[W] != NONE;
        }

        private int own() {
            return 2 * reg[W] + reg[PRIORITY];
        }

        int tell(int what) {
            switch (what) {
                case 6:
                    return reg[CLOCK];
                case 7:
                    return reg[HALTED];
                case 8:
                    return isRunning() ? reg[DONE] : 0;
                case 9:
                    return reg[INTERRUPTED + W] == NONE ? NONE : 2 * reg[INTERRUPTED + W] + LOW;
                case 10:
                    return timers.size;
                default:
                    return what >= A && what <= PRIORITY && isRunning() ? reg[what] : NONE;
            }
        }

        /** The i-th of a QUEUE. Its words in MEMORY may be anybody's, so each is looked at. */
        int inQueue(int priority, int i) {
            int back = reg[BACK + priority];
            int p = reg[FRONT + priority];
            int size = 0;
            while (size < MOST_IN_QUEUE && isProcess(p)) {
                if (size == i) {
                    return p;
                }
                size++;
                p = p == back ? NONE : memory[p / 2 - 2];
            }
            return i == NONE ? size : LACKING;
        }

        // ---- a TICK.

        void pass(Program program, int slice) {
            did = IDLE;
            if (isHalted()) {
                return;
            }
            System.arraycopy(reg, 0, regAhead, 0, REGISTERS);
            if (!chooseWhoRuns() || isRunning() && !perform(program, slice)) {
                // an INSTRUCTION looks at all before it writes: so only the registers have to go back
                System.arraycopy(regAhead, 0, reg, 0, REGISTERS);
                reg[HALTED] = 1;
                did = IDLE;
                return;
            }
            reg[CLOCK]++;
            endWaits();
        }

        private boolean chooseWhoRuns() {
            if (isRunning() && reg[PRIORITY] == LOW && reg[FRONT + HIGH] != NONE) {
                System.arraycopy(reg, 0, reg, INTERRUPTED, OF_PROCESS);
                reg[W] = NONE;
            }
            if (isRunning()) {
                return true;
            }
            if (reg[FRONT + HIGH] != NONE) {
                return take(HIGH);
            }
            if (reg[INTERRUPTED + W] != NONE) {
                System.arraycopy(reg, INTERRUPTED, reg, 0, OF_PROCESS);
                reg[INTERRUPTED + W] = NONE;
                return true;
            }
            return reg[FRONT + LOW] == NONE || take(LOW);
        }

        private boolean take(int priority) {
            int p = reg[FRONT + priority];
            if (!isProcess(p)) {
                return false;
            }
            int w = p / 2;
            if (p == reg[BACK + priority]) {
                reg[FRONT + priority] = NONE;
                reg[BACK + priority] = NONE;
            } else {
                reg[FRONT + priority] = memory[w - 2];
            }
            reg[W] = w;
            reg[I] = memory[w - 1];
            reg[PRIORITY] = priority;
            reg[DONE] = 0;
            clear();
            return true;
        }

        private void endWaits() {
            int i = 0;
            for (int left = timers.size; left > 0; left--) {
                if (isAfter(reg[CLOCK], timers.time[i])) {
                    endWait(i);
                } else {
                    i++;
                }
            }
        }

        private void endWait(int i) {
            int p = timers.process[i];
            int w = p / 2;
            if (timers.isByTaltwt[i]) {
                memory[w - 3] = READY;
                memory[w - 4] = SET;
                memory[w - 5] = reg[CLOCK];
            }
            timers.remove(i);
            schedule(p);
        }

        void schedule(int p) {
            int priority = p & 1;
            int back = reg[BACK + priority];
            if (reg[FRONT + priority] == NONE) {
                reg[FRONT + priority] = p;
            } else if (isProcess(back)) {
                memory[back / 2 - 2] = p;
            }
            reg[BACK + priority] = p;
        }

        private void goOff() {
            memory[reg[W] - 1] = reg[I];
            reg[W] = NONE;
        }

        private void clear() {
            reg[A] = 0;
            reg[B] = 0;
            reg[C] = 0;
        }

        private void push(int v) {
            reg[C] = reg[B];
            reg[B] = reg[A];
            reg[A] = v;
        }

        private void pop() {
            reg[A] = reg[B];
            reg[B] = reg[C];
        }

        // ---- INSTRUCTIONS; each answers whether it can be: if not, it has written no word yet.

        private boolean perform(Program program, int slice) {
            int i = reg[I];
            if (i < 0 || i >= program.size) {
                return false;
            }
            reg[I] = i + 1;
            reg[DONE]++;
            did = reg[PRIORITY];
            int op = program.op[i];
            if (op < ADD) {
                return performTold(op, program.number[i], slice);
            }
            if (op < STARTP) {
                return performOnWords(op);
            }
            if (op == IN || op == OUT) {
                return communicate(op == OUT);
            }
            return op < IN ? performOnProcesses(op) : performOnGuards(op);
        }

        private boolean performTold(int op, int n, int slice) {
            // wraps: what is below 0 or too high then is no place
            int at = reg[W] + n;
            switch (op) {
                case LDC:
                case LDPI:
                    push(n);
                    return true;
                case LDL:
                    return pushWord(at);
                case STL:
                    return popWord(at);
                case LDLP:
                    push(at);
                    return true;
                case ADC:
                    reg[A] += n;
                    return true;
                case EQC:
                    reg[A] = reg[A] == n ? 1 : 0;
                    return true;
                case AJW:
                    reg[W] = at;
                    return isW(at);
                case J:
                    jump(n, slice);
                    return true;
                case CJ:
                    if (reg[A] == 0) {
                        reg[I] = n;
                    } else {
                        pop();
                    }
                    return true;
                default:
                    return false;
            }
        }

        private boolean pushWord(int at) {
            if (!isPlace(at)) {
                return false;
            }
            push(memory[at]);
            return true;
        }

        private boolean popWord(int at) {
            if (!isPlace(at)) {
                return false;
            }
            memory[at] = reg[A];
            pop();
            return true;
        }

        private void jump(int to, int slice) {
            reg[I] = to;
            if (reg[PRIORITY] == LOW && reg[DONE] >= slice) {
                int p = own();
                goOff();
                schedule(p);
            }
        }

        private boolean performOnWords(int op) {
            int a = reg[A];
            int b = reg[B];
            switch (op) {
                case ADD:
                    reg[A] = b + a;
                    break;
                case SUB:
                    reg[A] = b - a;
                    break;
                case MUL:
                    reg[A] = b * a;
                    break;
                case GT:
                    reg[A] = b > a ? 1 : 0;
                    break;
                case REV:
                    reg[A] = b;
                    reg[B] = a;
                    return true;
                case DUP:
                    push(a);
                    return true;
                case LOAD:
                    return load();
                default:
                    return store();
            }
            reg[B] = reg[C];
            return true;
        }

        private boolean load() {
            if (!isPlace(reg[A])) {
                return false;
            }
            reg[A] = memory[reg[A]];
            return true;
        }

        private boolean store() {
            if (!isPlace(reg[A])) {
                return false;
            }
            memory[reg[A]] = reg[B];
            pop();
            pop();
            return true;
        }

        private boolean performOnProcesses(int op) {
            switch (op) {
                case STARTP:
                    return startProcess();
                case ENDP:
                    return endProcess();
                case STOPP:
                    goOff();
                    return true;
                case RUNP:
                    return runProcess();
                case LDPRI:
                    push(reg[PRIORITY]);
                    return true;
                case CLOCK_OP:
                    push(reg[CLOCK]);
                    return true;
                case TIN:
                    return waitForTime();
                default:
                    return false;
            }
        }

        private boolean startProcess() {
            int w = reg[A];
            if (!isW(w)) {
                return false;
            }
            memory[w - 1] = reg[B];
            schedule(2 * w + reg[PRIORITY]);
            pop();
            pop();
            return true;
        }

        private boolean endProcess() {
            int a = reg[A];
            if (!isPlace(a + 1)) {
                return false;
            }
            int left = memory[a + 1] - 1;
            if (left == 0 && !isW(a)) {
                return false;
            }
            memory[a + 1] = left;
            if (left == 0) {
                reg[W] = a;
                reg[I] = memory[a];
                clear();
            } else {
                reg[W] = NONE;
            }
            return true;
        }

        private boolean runProcess() {
            if (!isProcess(reg[A])) {
                return false;
            }
            schedule(reg[A]);
            pop();
            return true;
        }

        private boolean waitForTime() {
            if (!isAfter(reg[CLOCK], reg[A])) {
                if (timers.isFull()) {
                    return false;
                }
                timers.put(own(), reg[A], false);
                goOff();
            }
            clear();
            return true;
        }

        // ---- in and out.

        private boolean communicate(boolean sends) {
            int many = reg[A];
            int channel = reg[B];
            int first = reg[C];
            clear();
            if (many < 1 || many > MOST_WORDS || !isPlace(channel) || !arePlaces(first, many)) {
                return false;
            }
            if (channel < 2 * LINKS) {
                return useLink(sends, sends ? channel : channel - LINKS, first, many);
            }
            int v = memory[channel];
            if (v == NONE) {
                waitAt(channel, first);
                return true;
            }
            if (!isProcess(v)) {
                return false;
            }
            int state = memory[v / 2 - 3];
            if (sends && (state == ENABLING || state == WAITING || state == READY)) {
                alert(v);
                waitAt(channel, first);
                return true;
            }
            if (!arePlaces(state, many)) {
                return false;
            }
            meet(sends, channel, v, many, first);
            return true;
        }

        private void meet(boolean sends, int channel, int other, int many, int mine) {
            int its = memory[other / 2 - 3];
            for (int k = 0; k < many; k++) {
                if (sends) {
                    memory[its + k] = memory[mine + k];
                } else {
                    memory[mine + k] = memory[its + k];
                }
            }
            memory[channel] = NONE;
            schedule(other);
            diary.note(number, channel, sends ? own() : other, sends ? other : own(), many);
        }

        private void waitAt(int channel, int first) {
            memory[channel] = own();
            memory[reg[W] - 3] = first;
            goOff();
        }

        /** One in an alternative is told that somebody would send. */
        private void alert(int p) {
            int at = p / 2 - 3;
            boolean isWaiting = memory[at] == WAITING;
            if (isWaiting || memory[at] == ENABLING) {
                memory[at] = READY;
            }
            if (!isWaiting) {
                return;
            }
            int i = timers.findByTaltwt(p);
            if (i != NONE) {
                timers.remove(i);
                memory[p / 2 - 4] = NOTSET;
            }
            schedule(p);
        }

        private boolean useLink(boolean sends, int k, int first, int many) {
            if (k < 0 || k >= LINKS) {
                return false;
            }
            Link link = links[k];
            if ((sends ? link.sender : link.receiver) != NONE) {
                return false;
            }
            if (sends) {
                link.beginSending(own(), first, many);
            } else {
                link.beginReceiving(own(), first, many);
            }
            goOff();
            return true;
        }

        // ---- alternatives.

        private boolean performOnGuards(int op) {
            int w = reg[W];
            switch (op) {
                case ALT:
                    memory[w - 3] = ENABLING;
                    return true;
                case TALT:
                    memory[w - 3] = ENABLING;
                    memory[w - 4] = NOTSET;
                    return true;
                case ALTWT:
                    return waitForGuard();
                case TALTWT:
                    return waitForGuardOrTime();
                case ALTEND:
                    reg[I] = memory[w];
                    return true;
                case ENBC:
                    return enableChannel();
                case DISC:
                    return disableChannel();
                case ENBS:
                    if (reg[A] != 0) {
                        memory[w - 3] = READY;
                    }
                    return true;
                case DISS:
                    fire(reg[B] != 0);
                    reg[B] = reg[C];
                    return true;
                case ENBT:
                    enableTime();
                    return true;
                case DIST:
                    fire(reg[B] != 0 && memory[w - 4] == SET && isAfter(memory[w - 5], reg[C]));
                    reg[B] = 0;
                    reg[C] = 0;
                    return true;
                default:
                    return false;
            }
        }

        private boolean waitForGuard() {
            int w = reg[W];
            memory[w] = NONE;
            if (memory[w - 3] != READY) {
                memory[w - 3] = WAITING;
                goOff();
            }
            clear();
            return true;
        }

        private boolean waitForGuardOrTime() {
            int w = reg[W];
            boolean isSet = memory[w - 4] == SET;
            if (isSet && isAfter(reg[CLOCK], memory[w - 5])) {
                memory[w - 3] = READY;
                memory[w - 5] = reg[CLOCK];
            } else if (memory[w - 3] == READY) {
                memory[w - 4] = NOTSET;
            } else {
                if (isSet && timers.isFull()) {
                    return false;
                }
                if (isSet) {
                    timers.put(own(), memory[w - 5], true);
                }
                memory[w - 3] = WAITING;
                goOff();
            }
            memory[w] = NONE;
            clear();
            return true;
        }

        private boolean enableChannel() {
            if (reg[A] != 0) {
                int channel = reg[B];
                if (!isChannelIn(channel)) {
                    return false;
                }
                if (channel < 2 * LINKS) {
                    enableLink(links[channel - LINKS]);
                } else if (memory[channel] == NONE) {
                    memory[channel] = own();
                } else if (memory[channel] != own()) {
                    memory[reg[W] - 3] = READY;
                }
            }
            reg[B] = reg[C];
            return true;
        }

        private void enableLink(Link link) {
            if (link.isFull) {
                memory[reg[W] - 3] = READY;
            } else {
                link.alt = own();
            }
        }

        private boolean disableChannel() {
            boolean isFired = false;
            if (reg[B] != 0) {
                int channel = reg[C];
                if (!isChannelIn(channel)) {
                    return false;
                }
                if (channel < 2 * LINKS) {
                    links[channel - LINKS].alt = NONE;
                    isFired = links[channel - LINKS].isFull;
                } else if (memory[channel] == own()) {
                    memory[channel] = NONE;
                } else {
                    isFired = memory[channel] != NONE;
                }
            }
            fire(isFired);
            reg[B] = 0;
            reg[C] = 0;
            return true;
        }

        /** Whether words can come in by it: a LINK that sends is none. */
        private static boolean isChannelIn(int channel) {
            return isPlace(channel) && channel >= LINKS;
        }

        /** The first that is FIRED is chosen, the later ones find it chosen. */
        private void fire(boolean isFired) {
            int w = reg[W];
            if (isFired && memory[w] == NONE) {
                memory[w] = reg[A];
                reg[A] = 1;
            } else {
                reg[A] = 0;
            }
        }

        private void enableTime() {
            int w = reg[W];
            if (reg[A] != 0) {
                if (memory[w - 4] == NOTSET) {
                    memory[w - 4] = SET;
                    memory[w - 5] = reg[B];
                } else if (isAfter(memory[w - 5], reg[B])) {
                    memory[w - 5] = reg[B];
                }
            }
            reg[B] = reg[C];
        }

        // ---- the side of a JOIN that receives.

        void fillBuffer(Link link, int word) {
            link.buffer = word;
            link.isFull = true;
            int p = link.alt;
            link.alt = NONE;
            if (p != NONE) {
                alert(p);
            }
        }

        void emptyBuffer(Link link) {
            memory[link.receivePlace] = link.buffer;
            link.isFull = false;
            link.receivePlace++;
            link.receiveLeft--;
            if (link.receiveLeft == 0) {
                schedule(link.receiver);
                link.endReceiving();
            }
        }
    }

    /** Both machines and what happens between them. */
    private static final class World {
        final Diary diary = new Diary();
        final Machine[] machines = {new Machine(0, diary), new Machine(1, diary)};
        int slice;

        void begin(Program program) {
            diary.empty();
            machines[0].begin(program);
            machines[1].begin(program);
            slice = program.slice;
        }

        void copy(World other) {
            diary.copy(other.diary);
            machines[0].copy(other.machines[0]);
            machines[1].copy(other.machines[1]);
            slice = other.slice;
        }

        /** One TICK. */
        void pass(Program program) {
            diary.ticks++;
            machines[0].pass(program, slice);
            machines[1].pass(program, slice);
            for (int j = 0; j < program.joins; j++) {
                join(program, j);
            }
        }

        private void join(Program program, int j) {
            Machine from = machines[program.sender[j]];
            Machine to = machines[program.receiver[j]];
            if (from.isHalted() || to.isHalted()) {
                return;
            }
            Link out = from.links[program.sendLink[j]];
            Link in = to.links[program.receiveLink[j]];
            if (out.hasToSend() && !in.isFull) {
                int word = from.memory[out.sendPlace];
                out.sendPlace++;
                out.sendLeft--;
                to.fillBuffer(in, word);
            }
            if (!in.canReceive()) {
                return;
            }
            int receiver = in.receiver;
            to.emptyBuffer(in);
            if (out.sendLeft == 0) {
                int sender = out.sender;
                diary.note(program.sender[j], program.sendLink[j], sender, receiver, out.sendTold);
                from.schedule(sender);
                out.endSending();
            }
        }

        boolean isStuck(Program program) {
            if (!machines[0].isAtRest() || !machines[1].isAtRest()) {
                return false;
            }
            for (int j = 0; j < program.joins; j++) {
                if (wouldMove(program, j)) {
                    return false;
                }
            }
            return true;
        }

        private boolean wouldMove(Program program, int j) {
            Machine from = machines[program.sender[j]];
            Machine to = machines[program.receiver[j]];
            Link in = to.links[program.receiveLink[j]];
            boolean wouldSend = from.links[program.sendLink[j]].hasToSend() && !in.isFull;
            return !from.isHalted() && !to.isHalted() && (wouldSend || in.canReceive());
        }

        int haltedBits() {
            return (machines[0].isHalted() ? 1 : 0) + (machines[1].isHalted() ? 2 : 0);
        }
    }

    /** How it was ahead of the latest ACTS. */
    private static final class History {
        private static final int MOST = 8;

        int size;
        private int next;
        private final World[] worlds = new World[MOST];

        History() {
            for (int i = 0; i < MOST; i++) {
                worlds[i] = new World();
            }
        }

        void forget() {
            size = 0;
        }

        void remember(World world) {
            worlds[next].copy(world);
            next = (next + 1) % MOST;
            size = Math.min(size + 1, MOST);
        }

        /** Lays back how it was ahead of the latest ACT; answers how many are left, NONE without any. */
        int recall(World world) {
            if (size == 0) {
                return NONE;
            }
            next = (next + MOST - 1) % MOST;
            world.copy(worlds[next]);
            size--;
            return size;
        }
    }

    /** INSTRUCTIONS that are found by WAYS. */
    private static final class Ways {
        private int size;
        private final boolean[] isPicked = new boolean[Program.MOST_CODE];
        private final boolean[] isSeen = new boolean[Program.MOST_CODE];
        private final int[] open = new int[Program.MOST_CODE];
        private int opened;

        /** Picks those that are come to from one, it too. */
        void comeFrom(Program program, int i) {
            begin(program);
            see(i);
            follow(program, true);
            System.arraycopy(isSeen, 0, isPicked, 0, size);
        }

        /** Picks those from which one comes to them again without a j. */
        void comeBack(Program program) {
            size = program.size;
            for (int i = 0; i < size; i++) {
                begin(program);
                goOn(program, i, false);
                follow(program, false);
                isPicked[i] = isSeen[i];
            }
        }

        /** The k-th picked; how many (k NONE); LACKING for others. */
        int pick(int k) {
            int many = 0;
            for (int i = 0; i < size; i++) {
                if (isPicked[i]) {
                    if (many == k) {
                        return i;
                    }
                    many++;
                }
            }
            return k == NONE ? many : LACKING;
        }

        private void begin(Program program) {
            size = program.size;
            opened = 0;
            for (int i = 0; i < size; i++) {
                isSeen[i] = false;
            }
        }

        /** Each INSTRUCTION is opened once at most, so there is an end. */
        private void follow(Program program, boolean byJumps) {
            for (int i = 0; i < opened && i < size; i++) {
                goOn(program, open[i], byJumps);
            }
        }

        private void goOn(Program program, int i, boolean byJumps) {
            int op = program.op[i];
            if (op == CJ || op == J && byJumps) {
                see(program.number[i]);
            }
            if (op != J && op != ENDP && op != ALTEND && op != HALT) {
                see(i + 1);
            }
        }

        /** There may be none: behind the last INSTRUCTION is nothing. */
        private void see(int i) {
            if (i >= 0 && i < size && !isSeen[i]) {
                isSeen[i] = true;
                open[opened] = i;
                opened++;
            }
        }
    }
}
