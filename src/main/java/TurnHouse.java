import java.util.Arrays;

/**
 * A house for programs of several threads: it reads them, lets them go turn by turn by three ways of
 * memory, tries all turns, tells what can come of them, and judges laws, histories and rewritings.
 */
public final class TurnHouse {
    public static final int BAD = -1, NONE = -2, FULL = -3;

    private static final int NO_VALUE = -1000;
    private static final int LARGEST = 999;
    private static final int MOST_BYTES = 4000;
    private static final int FED_AT_ONCE = 20;
    private static final int MOST_CELLS = 8, MOST_LOCKS = 4, MOST_THREADS = 4, MOST_LOCALS = 6;
    private static final int MOST_LINES = 100, MOST_NODES = 400, MOST_DEPTH = 9;
    private static final int MOST_STEPS = 200;
    private static final int MOST_STATES = 20000, MOST_VIEW_STATES = 6000, MOST_TRIED = 200000;
    private static final int MOST_KEPT = 4000;

    private static final int TURNS = 0, BUFFERS = 1, VIEWS = 2;

    private static final int SETTING = 0, LOAD = 1, STORE = 2, CAS = 3, ADD = 4, LOCK = 5, UNLOCK = 6,
        WAIT = 7, WAKE = 8, WAKEALL = 9, START = 10, JOIN = 11, FENCE = 12, HALT = 13, ASSERT = 14,
        CALL = 15, REPLY = 16, IF = 17, WHILE = 18;
    /** What a step was that is no line's plain doing. */
    private static final int TAKING = 19, FLUSHING = 20, NOTHING = 21;

    private static final int RUNS = 1, WAITS = 2, WOKEN = 3, ENDED = 4, WRONG = 5;
    private static final int FLUSH = 9;

    private final Tokens tokens;
    private final Program first, rewritten;
    private final Reader reader;
    private final Turns turns;
    private final Rows kept;
    private final Judge judge;
    private final Run run;
    private final History history;
    private boolean hasProgram, hasRewritten;
    private boolean triedRewritten, runsRewritten;
    private int where, gained;

    public TurnHouse() {
        tokens = new Tokens();
        Nodes nodes = new Nodes(MOST_NODES + MOST_LINES);
        first = new Program(nodes);
        rewritten = new Program(nodes);
        Nodes lawNodes = new Nodes(MOST_NODES);
        reader = new Reader(tokens, first, lawNodes);
        turns = new Turns();
        kept = new Rows(new long[Machine.OUTCOME_WIDTH * MOST_KEPT], MOST_KEPT, 1 << 13);
        judge = new Judge(turns, lawNodes);
        run = new Run();
        history = new History();
        where = NONE;
        gained = NONE;
    }

    // ---- texts

    public int feed(int a, int b, int c, int d, int e) {
        if (tokens.length > MOST_BYTES - FED_AT_ONCE) {
            return FULL;
        }
        tokens.append(a);
        tokens.append(b);
        tokens.append(c);
        tokens.append(d);
        tokens.append(e);
        return tokens.length;
    }

    public int end(int n) {
        if (n < 0 || n > FED_AT_ONCE || tokens.length < FED_AT_ONCE) {
            return BAD;
        }
        tokens.length -= FED_AT_ONCE - n;
        return tokens.length;
    }

    public int program() {
        turns.done = false;
        run.live = false;
        hasRewritten = false;
        where = NONE;
        gained = NONE;
        reader.readProgram();
        tokens.length = 0;
        hasProgram = reader.fault == 0;
        return reader.fault;
    }

    public int count(int what) {
        switch (what) {
            case 0:
                return reader.fault;
            case 1:
                return reader.place;
            case 2:
                return tokens.length;
            case 3:
                return hasProgram ? first.cellCount : 0;
            case 4:
                return hasProgram ? first.lockCount : 0;
            case 5:
                return hasProgram ? first.threadCount : 0;
            case 6:
                return hasProgram ? first.lineCount : 0;
            case 7:
                return hasProgram ? first.nodeCount : 0;
            default:
                return BAD;
        }
    }

    public int line(int i, int what) {
        if (!hasProgram || i < 0 || i >= first.lineCount) {
            return BAD;
        }
        switch (what) {
            case 0:
                return first.at[Program.KIND][i];
            case 1:
                return first.at[Program.THREAD][i];
            case 2:
                return first.at[Program.OBJECT][i];
            case 3:
                return first.at[Program.LOCAL][i];
            case 4:
                return first.at[Program.LEVEL][i];
            default:
                return BAD;
        }
    }

    // ---- runs

    public int begin(int way) {
        if (!hasProgram || !isWay(way)) {
            return BAD;
        }
        runsRewritten = false;
        run.start(first, way);
        return run.machine.listReady();
    }

    public int ready(int i) {
        if (!run.live) {
            return BAD;
        }
        int n = run.machine.listReady();
        return i < 0 || i >= n ? NONE : run.machine.ready[i];
    }

    public int turn(int thread, int choice) {
        if (!run.live) {
            return BAD;
        }
        if (!run.machine.isReady(thread, choice)) {
            return NONE;
        }
        if (run.length >= MOST_STEPS) {
            return FULL;
        }
        run.take(thread, choice);
        return run.machine.listReady();
    }

    public int thread(int t, int what) {
        if (!run.live || t < 0 || t >= first.threadCount) {
            return BAD;
        }
        int[] now = run.machine.now;
        switch (what) {
            case 0:
                return now[Machine.STATUS + t];
            case 1:
                return now[Machine.NEXT + t] < 0 ? NONE : now[Machine.NEXT + t];
            case 2:
                return now[Machine.WHY + t];
            case 3:
                return now[Machine.QUEUED + t];
            default:
                return BAD;
        }
    }

    public int local(int t, int i) {
        if (!run.live) {
            return BAD;
        }
        return first.hasLocal(t, i) ? run.machine.now[Machine.localSlot(t, i)] : NO_VALUE;
    }

    public int cell(int c) {
        return run.live && first.hasCell(c) ? run.machine.now[Machine.MEMORY + c] : NO_VALUE;
    }

    public int seen(int t, int i) {
        if (!run.live || t < 0 || t >= first.threadCount) {
            return NO_VALUE;
        }
        return run.machine.mayLoad(t, i) ? run.machine.loadable(t, i) : NO_VALUE;
    }

    public int held(int lock, int what) {
        if (!run.live || !first.hasLock(lock)) {
            return BAD;
        }
        int holder = run.machine.now[Machine.HOLDER + lock];
        switch (what) {
            case 0:
                return holder < 0 ? NONE : holder;
            case 1:
                return run.machine.now[Machine.TAKEN + lock];
            default:
                return BAD;
        }
    }

    public int step(int i, int what) {
        if (!run.live) {
            return BAD;
        }
        if (i == -1) {
            return what == 0 ? run.length : BAD;
        }
        if (i < 0 || i >= run.length || what < 0 || what > 2) {
            return BAD;
        }
        return run.at[what][i];
    }

    public int before(int i, int j) {
        if (!run.live || i < 0 || i >= run.length || j < 0 || j >= run.length) {
            return BAD;
        }
        return run.isAhead(i, j) ? 1 : 0;
    }

    public int runRace(int k, int what) {
        if (!run.live || k < -1 || what < 0 || what > 1) {
            return BAD;
        }
        return run.findRace(k, what);
    }

    public int linear(int structure) {
        if (!run.live || structure < 0 || structure > 3) {
            return BAD;
        }
        return history.arrange(run, structure);
    }

    public int ordered(int i) {
        return i < 0 || i >= history.toldLength ? NONE : history.told[i];
    }

    // ---- all turns

    public int explore(int way, boolean fewer) {
        if (!hasProgram || !isWay(way)) {
            return BAD;
        }
        triedRewritten = false;
        return turns.tryAll(first, way, fewer);
    }

    public int explored(int what) {
        if (!turns.done) {
            return BAD;
        }
        switch (what) {
            case 0:
                return turns.states.size;
            case 1:
                return turns.edgeCount;
            case 2:
                return turns.endCount;
            case 3:
                return turns.outcomes.size;
            case 4:
                return turns.machine.way;
            case 5:
                return turns.fewer ? 1 : 0;
            default:
                return BAD;
        }
    }

    public int outcome(int i, int what) {
        if (!turns.hasOutcome(i)) {
            return BAD;
        }
        switch (what) {
            case 0:
                return turns.slotOfOutcome(i, Machine.SORT);
            case 1:
                return turns.stateOfOutcome(i);
            case 2:
                return turns.fewestSwitches(i);
            default:
                return BAD;
        }
    }

    public int outcomeCell(int i, int c) {
        return turns.hasOutcome(i) && first.hasCell(c) ? turns.slotOfOutcome(i, Machine.MEMORY + c) : NO_VALUE;
    }

    public int outcomeLocal(int i, int t, int k) {
        return turns.hasOutcome(i) && first.hasLocal(t, k)
            ? turns.slotOfOutcome(i, Machine.localSlot(t, k)) : NO_VALUE;
    }

    public int schedule(int state, int i) {
        if (!turns.hasState(state) || i < -1) {
            return BAD;
        }
        int length = turns.scheduleLength(state);
        if (i == -1) {
            return length;
        }
        return i >= length ? BAD : turns.scheduledStep(state, length - 1 - i);
    }

    public int replay(int state) {
        if (!turns.hasState(state)) {
            return BAD;
        }
        int length = turns.scheduleLength(state);
        if (length > MOST_STEPS) {
            return FULL;
        }
        runsRewritten = triedRewritten;
        run.start(turns.machine.program, turns.machine.way);
        for (int i = 0; i < length; i++) {
            int step = turns.scheduledStep(state, length - 1 - i);
            run.take(step / 10, step % 10);
        }
        return run.machine.listReady();
    }

    public int chances(int i, int d, int k) {
        if (!turns.hasOutcome(i) || turns.machine.way != TURNS || d < 1 || d > 3 || k < 1 || k > 12) {
            return BAD;
        }
        return turns.countChances(i, d, k);
    }

    // ---- findings

    public int race(int k, int what) {
        if (!turns.done || k < -1 || what < 0 || what > 2) {
            return BAD;
        }
        return turns.findings.findRace(k, what);
    }

    public int guard(int cell) {
        return turns.done && first.hasCell(cell) ? turns.findings.guards[cell] : BAD;
    }

    public int ring(int what) {
        if (!turns.done || what < 0 || what > 5) {
            return BAD;
        }
        return what == 5 ? turns.findings.crossed() : turns.findings.ringing[what];
    }

    public int order(int a, int b) {
        if (!turns.done || !first.hasLock(a) || !first.hasLock(b)) {
            return BAD;
        }
        return turns.findings.orders[a] >> b & 1;
    }

    // ---- laws

    public int judge() {
        if (!turns.done) {
            return BAD;
        }
        reader.readLaw();
        tokens.length = 0;
        if (reader.fault != 0) {
            return -10 - reader.fault;
        }
        boolean goesOn = reader.law == Tokens.MUST || reader.law == Tokens.LEADS;
        if (goesOn && turns.fewer) {
            return BAD;
        }
        boolean holds = judge.holds(reader.law, reader.fair, reader.cuts);
        where = judge.shown;
        return holds ? 1 : 0;
    }

    public int where() {
        return where;
    }

    // ---- rewritings

    public int rewrite(int kind, int line) {
        if (!hasProgram || line < 0 || line >= first.lineCount || kind < 0 || kind > 2) {
            return BAD;
        }
        if (!hasRewritten) {
            rewritten.copy(first);
        }
        if (rewritten.at[Program.GONE][line] != 0) {
            return BAD;
        }
        if (!rewritten.change(kind, line)) {
            return 0;
        }
        forgetRewritten();
        hasRewritten = true;
        return 1;
    }

    public int drop() {
        if (!hasRewritten) {
            return 0;
        }
        forgetRewritten();
        hasRewritten = false;
        return 1;
    }

    public int sound(int way) {
        if (!isWay(way)) {
            return BAD;
        }
        if (!hasRewritten) {
            return NONE;
        }
        triedRewritten = false;
        boolean fits = turns.tryAll(first, way, false) >= 0 && turns.outcomes.size <= MOST_KEPT;
        turns.done = false;
        if (!fits) {
            return FULL;
        }
        kept.clear(turns.outcomes.width, MOST_KEPT);
        for (int i = 0; i < turns.outcomes.size; i++) {
            kept.put(turns.states.data, turns.outcomes.start[i]);
        }
        triedRewritten = true;
        if (turns.tryAll(rewritten, way, false) < 0) {
            return FULL;
        }
        for (int i = 0; i < turns.outcomes.size; i++) {
            if (kept.numberOf(turns.states.data, turns.outcomes.start[i]) < 0) {
                gained = i;
                return 0;
            }
        }
        return 1;
    }

    public int gained() {
        return gained;
    }

    // ---- what several calls share

    private static boolean isWay(int way) {
        return way >= TURNS && way <= VIEWS;
    }

    private void forgetRewritten() {
        if (triedRewritten) {
            turns.done = false;
            triedRewritten = false;
        }
        if (runsRewritten) {
            run.live = false;
            runsRewritten = false;
        }
    }

    /** The text, its tokens, and the one of them that is looked at. */
    private static final class Tokens {
        static final int END = 0, BROKEN = 1, WORD = 2, NUMBER = 3;
        /** Added to a sign that has a = behind it. */
        static final int AND_EQUAL = 128;
        static final int FIRST_KEY = 300;
        /** The words of statements stand first, in the order of the kinds of lines from CAS on. */
        static final String KEYS = "cas add lock unlock wait wake wakeall start join fence halt assert call reply if while else cell volatile thread later into always never may must leads fair ended wrong waits held stuck";
        static final String SIGNS = "{}();,=+-*<>&|!.";
        static final int LOCK_KEY = 302, WHILE_KEY = 315, ELSE = 316, CELL = 317, VOLATILE = 318, THREAD = 319,
            LATER = 320, INTO = 321, ALWAYS = 322, NEVER = 323, MAY = 324, MUST = 325, LEADS = 326, FAIR = 327,
            ENDED_KEY = 328, WRONG_KEY = 329, WAITS_KEY = 330, HELD = 331, STUCK = 332;
        static final int KEY_COUNT = 33;
        static final int LONGEST_WORD = 8, LONGEST_NUMBER = 3;

        final byte[] text = new byte[MOST_BYTES];
        final long[] keys = codes(KEYS, KEY_COUNT);
        final int[] kinds = new int[MOST_BYTES + 1], starts = new int[MOST_BYTES + 1];
        /** The values of numbers, the codes of words. */
        final long[] meanings = new long[MOST_BYTES + 1];
        int length, tokenCount, behind;
        int at, kind, start;
        long meaning;

        /** The words of a list with blanks between them, seven bits for each letter. */
        static long[] codes(String list, int count) {
            long[] codes = new long[count];
            int n = 0;
            for (int i = 0; i < list.length() && n < count; i++) {
                char c = list.charAt(i);
                if (c == ' ') {
                    n++;
                } else {
                    codes[n] = codes[n] << 7 | c;
                }
            }
            return codes;
        }

        void append(int number) {
            for (int shift = 24; shift >= 0 && length < MOST_BYTES; shift -= 8) {
                text[length] = (byte) (number >> shift);
                length++;
            }
        }

        /** Cuts the text up to its end, or to a token that is none, and looks at the first token. */
        void cut() {
            tokenCount = 0;
            behind = 0;
            kind = WORD;
            for (int n = 0; n <= MOST_BYTES && kind != END && kind != BROKEN; n++) {
                skipBlanks();
                start = behind;
                meaning = 0;
                cutOne();
                kinds[tokenCount] = kind;
                starts[tokenCount] = start;
                meanings[tokenCount] = meaning;
                tokenCount++;
            }
            at = -1;
            advance();
        }

        void advance() {
            if (at < tokenCount - 1) {
                at++;
            }
            kind = kinds[at];
            start = starts[at];
            meaning = meanings[at];
        }

        private int byteAt(int i) {
            return i < length ? text[i] & 255 : -1;
        }

        private static boolean isLetter(int b) {
            return b >= 'a' && b <= 'z' || b >= 'A' && b <= 'Z';
        }

        private static boolean isDigit(int b) {
            return b >= '0' && b <= '9';
        }

        private void skipBlanks() {
            boolean remark = false;
            for (; behind < length; behind++) {
                int b = text[behind];
                if (b == '\n') {
                    remark = false;
                } else if (b == '#') {
                    remark = true;
                } else if (!remark && b != '\t' && b != '\r' && b != ' ') {
                    return;
                }
            }
        }

        private void cutOne() {
            int b = byteAt(behind);
            if (b < 0) {
                kind = END;
            } else if (isLetter(b)) {
                cutWord();
            } else if (isDigit(b)) {
                cutNumber();
            } else {
                cutSign(b);
            }
        }

        private void cutWord() {
            for (; behind < length; behind++) {
                int b = byteAt(behind);
                if (!isLetter(b) && !isDigit(b) && b != '_') {
                    break;
                }
                meaning = meaning << 7 | b;
            }
            kind = behind - start > LONGEST_WORD ? BROKEN : WORD;
            for (int i = 0; i < KEY_COUNT && kind == WORD; i++) {
                if (keys[i] == meaning) {
                    kind = FIRST_KEY + i;
                }
            }
        }

        private void cutNumber() {
            for (; behind < length && isDigit(byteAt(behind)); behind++) {
                meaning = meaning * 10 + byteAt(behind) - '0';
            }
            kind = behind - start > LONGEST_NUMBER ? BROKEN : NUMBER;
        }

        private void cutSign(int b) {
            if (SIGNS.indexOf((char) b) < 0) {
                kind = BROKEN;
                return;
            }
            behind++;
            kind = b;
            boolean mayHaveEqual = b == '=' || b == '!' || b == '<' || b == '>';
            if (mayHaveEqual && byteAt(behind) == '=') {
                behind++;
                kind = b + AND_EQUAL;
            }
        }
    }

    /** Expressions, in the order in which they are worked out: both sides ahead of their operator. */
    private static final class Nodes {
        static final int VALUE = 1, SLOT = 2, THREAD_IS = 3, MINUS = 4;
        static final int EQUAL = '=' + Tokens.AND_EQUAL, UNLIKE = '!' + Tokens.AND_EQUAL,
            AT_MOST = '<' + Tokens.AND_EQUAL, AT_LEAST = '>' + Tokens.AND_EQUAL;

        final int[] operator, operand, stack;
        int size;
        /** Whether a value of what was worked out last went beyond the numbers that there are. */
        boolean beyond;

        Nodes(int most) {
            operator = new int[most];
            operand = new int[most];
            stack = new int[most + 2];
        }

        void put(int what, int about) {
            if (size < operator.length) {
                set(size, what, about);
                size++;
            }
        }

        void set(int i, int what, int about) {
            operator[i] = what;
            operand[i] = about;
        }

        int workOut(int from, int to, int[] state) {
            beyond = false;
            stack[0] = 0;
            int top = 0;
            for (int i = from; i < to; i++) {
                int what = operator[i];
                top -= what <= THREAD_IS ? 0 : what == MINUS || what == '!' ? 1 : 2;
                int value = apply(what, operand[i], top, state);
                if (value > LARGEST || value < -LARGEST) {
                    beyond = true;
                    return 0;
                }
                stack[top] = value;
                top++;
            }
            return stack[0];
        }

        private int apply(int what, int about, int top, int[] state) {
            int a = stack[top], b = stack[top + 1];
            switch (what) {
                case VALUE:
                    return about;
                case SLOT:
                    return state[about];
                case THREAD_IS:
                    return state[Machine.STATUS + about / 8] == about % 8 ? 1 : 0;
                case MINUS:
                    return -a;
                case '!':
                    return a == 0 ? 1 : 0;
                case '+':
                    return a + b;
                case '-':
                    return a - b;
                case '*':
                    return a * b;
                case '<':
                    return a < b ? 1 : 0;
                case '>':
                    return a > b ? 1 : 0;
                case '&':
                    return a != 0 && b != 0 ? 1 : 0;
                case '|':
                    return a != 0 || b != 0 ? 1 : 0;
                case EQUAL:
                    return a == b ? 1 : 0;
                case UNLIKE:
                    return a != b ? 1 : 0;
                case AT_MOST:
                    return a <= b ? 1 : 0;
                default:
                    return a >= b ? 1 : 0;
            }
        }
    }

    /** The names and lines of a program, and where each line goes on. */
    private static final class Program {
        static final int KIND = 0, THREAD = 1, OBJECT = 2, LOCAL = 3, LEVEL = 4;
        /** The one or two expressions of a line, as parts of the nodes. */
        static final int FROM = 5, TO = 6, FROM2 = 7, TO2 = 8;
        static final int CALLED = 9;
        /** The tree of statements: what a block is in, in which part of it, and what stands first there. */
        static final int NEXT = 10, PARENT = 11, PART = 12, CHILD = 13, OTHER = 14;
        static final int IF_TRUE = 15, ELSEWHERE = 16, GONE = 17;
        static final int FIELDS = 18;

        /** Where the names of locks and of threads stand among the names; those of cells stand first. */
        static final int FIRST_LOCK = MOST_CELLS, FIRST_THREAD = MOST_CELLS + MOST_LOCKS,
            NAMES = MOST_CELLS + MOST_LOCKS + MOST_THREADS;

        final Nodes nodes;
        final long[] names = new long[NAMES];
        final long[] locals = new long[MOST_THREADS * MOST_LOCALS];
        final int[] localCount = new int[MOST_THREADS];
        final int[] firstValue = new int[MOST_CELLS];
        final int[] head = new int[MOST_THREADS];
        final int[][] at = new int[FIELDS][MOST_LINES];
        int volatileCells, laterThreads;
        int cellCount, lockCount, threadCount, lineCount, nodeCount;

        Program(Nodes nodes) {
            this.nodes = nodes;
        }

        void clear() {
            Arrays.fill(names, 0);
            Arrays.fill(localCount, 0);
            nodes.size = 0;
            volatileCells = 0;
            laterThreads = 0;
            cellCount = 0;
            lockCount = 0;
            threadCount = 0;
            lineCount = 0;
            nodeCount = 0;
        }

        void copy(Program other) {
            volatileCells = other.volatileCells;
            laterThreads = other.laterThreads;
            cellCount = other.cellCount;
            lockCount = other.lockCount;
            threadCount = other.threadCount;
            lineCount = other.lineCount;
            nodeCount = other.nodeCount;
            System.arraycopy(other.names, 0, names, 0, NAMES);
            System.arraycopy(other.locals, 0, locals, 0, MOST_THREADS * MOST_LOCALS);
            System.arraycopy(other.localCount, 0, localCount, 0, MOST_THREADS);
            System.arraycopy(other.firstValue, 0, firstValue, 0, MOST_CELLS);
            System.arraycopy(other.head, 0, head, 0, MOST_THREADS);
            for (int i = 0; i < FIELDS; i++) {
                System.arraycopy(other.at[i], 0, at[i], 0, MOST_LINES);
            }
        }

        static int find(long[] words, int from, int count, long word) {
            for (int i = 0; i < count; i++) {
                if (words[from + i] == word) {
                    return i;
                }
            }
            return -1;
        }

        /** The place of a word among the names, less than 0 if it is none. */
        int named(long word) {
            for (int i = 0; i < NAMES; i++) {
                if (names[i] == word) {
                    return i;
                }
            }
            return -1;
        }

        static boolean isCell(int name) {
            return name >= 0 && name < FIRST_LOCK;
        }

        static boolean isLock(int name) {
            return name >= FIRST_LOCK && name < FIRST_THREAD;
        }

        static boolean isThread(int name) {
            return name >= FIRST_THREAD;
        }

        int localOf(int t, long word) {
            return find(locals, t * MOST_LOCALS, localCount[t], word);
        }

        /** Whether a word is a name, or a local of a thread. */
        boolean isTold(long word) {
            for (int t = 0; t < threadCount; t++) {
                if (localOf(t, word) >= 0) {
                    return true;
                }
            }
            return named(word) >= 0;
        }

        boolean hasCell(int c) {
            return c >= 0 && c < cellCount;
        }

        boolean hasLock(int lock) {
            return lock >= 0 && lock < lockCount;
        }

        boolean hasThread(int t) {
            return t >= 0 && t < threadCount;
        }

        boolean hasLocal(int t, int i) {
            return hasThread(t) && i >= 0 && i < localCount[t];
        }

        boolean isVolatile(int c) {
            return (volatileCells >> c & 1) != 0;
        }

        int addCell(long word) {
            names[cellCount] = word;
            firstValue[cellCount] = 0;
            cellCount++;
            return cellCount - 1;
        }

        void addLock(long word) {
            names[FIRST_LOCK + lockCount] = word;
            lockCount++;
        }

        int addThread(long word) {
            names[FIRST_THREAD + threadCount] = word;
            head[threadCount] = -1;
            threadCount++;
            return threadCount - 1;
        }

        int addLocal(int t, long word) {
            locals[t * MOST_LOCALS + localCount[t]] = word;
            localCount[t]++;
            return localCount[t] - 1;
        }

        int addLine(int thread, int parent, int part, int level) {
            int line = lineCount;
            lineCount++;
            for (int i = 0; i < FIELDS; i++) {
                at[i][line] = 0;
            }
            at[THREAD][line] = thread;
            at[OBJECT][line] = NONE;
            at[LOCAL][line] = NONE;
            at[LEVEL][line] = level;
            at[NEXT][line] = -1;
            at[PARENT][line] = parent;
            at[PART][line] = part;
            at[CHILD][line] = -1;
            at[OTHER][line] = -1;
            return line;
        }

        /** Puts a line behind another one of its block; behind none it is the first there. */
        void link(int last, int line) {
            if (last >= 0) {
                at[NEXT][last] = line;
                return;
            }
            int parent = at[PARENT][line];
            if (parent < 0) {
                head[at[THREAD][line]] = line;
            } else {
                at[at[PART][line] == 0 ? CHILD : OTHER][parent] = line;
            }
        }

        /** Tells each line where it goes on, by the tree of statements. */
        void layWays() {
            for (int i = 0; i < lineCount; i++) {
                int behind = behind(i);
                boolean loops = at[KIND][i] == WHILE;
                at[IF_TRUE][i] = at[CHILD][i] >= 0 ? at[CHILD][i] : loops ? i : behind;
                at[ELSEWHERE][i] = at[OTHER][i] >= 0 ? at[OTHER][i] : behind;
            }
        }

        private int behind(int line) {
            int inner = line;
            for (int n = 0; n < MOST_LINES; n++) {
                if (at[NEXT][inner] >= 0) {
                    return at[NEXT][inner];
                }
                inner = at[PARENT][inner];
                if (inner < 0 || at[KIND][inner] == WHILE) {
                    return inner;
                }
            }
            return -1;
        }

        boolean touches(int line) {
            return at[KIND][line] >= LOAD && at[KIND][line] <= ADD;
        }

        /** Whether two lines that touch cells are a race, if they are of two threads. */
        boolean clash(int i, int j) {
            int one = at[KIND][i], other = at[KIND][j];
            if (at[OBJECT][i] != at[OBJECT][j] || isVolatile(at[OBJECT][i])) {
                return false;
            }
            return one == STORE || other == STORE || (one == LOAD) != (other == LOAD);
        }

        // ---- rewritings

        boolean change(int kind, int line) {
            boolean can = kind == 0 ? swap(line) : kind == 1 ? leaveOut(line) : reuse(line);
            if (can) {
                layWays();
            }
            return can;
        }

        private int ahead(int line) {
            int parent = at[PARENT][line];
            int one = parent < 0 ? head[at[THREAD][line]] : at[at[PART][line] == 0 ? CHILD : OTHER][parent];
            int last = -1;
            for (int n = 0; n < MOST_LINES && one >= 0 && one != line; n++) {
                last = one;
                one = at[NEXT][one];
            }
            return last;
        }

        private boolean swap(int line) {
            int next = at[NEXT][line];
            if (next < 0) {
                return false;
            }
            link(ahead(line), next);
            at[NEXT][line] = at[NEXT][next];
            at[NEXT][next] = line;
            return true;
        }

        private boolean leaveOut(int line) {
            if (at[KIND][line] == IF || at[KIND][line] == WHILE) {
                return false;
            }
            int next = at[NEXT][line];
            int last = ahead(line);
            if (next >= 0 || last >= 0) {
                unlink(line, last, next);
            } else {
                empty(line);
            }
            at[GONE][line] = 1;
            return true;
        }

        private void unlink(int line, int last, int next) {
            if (next >= 0) {
                link(last, next);
            } else {
                at[NEXT][last] = -1;
            }
            at[NEXT][line] = -1;
        }

        /** The block of the line, which stands alone in it, has nothing then. */
        private void empty(int line) {
            int parent = at[PARENT][line];
            if (parent < 0) {
                head[at[THREAD][line]] = -1;
            } else {
                at[at[PART][line] == 0 ? CHILD : OTHER][parent] = -1;
            }
        }

        private boolean reuse(int line) {
            int last = ahead(line);
            if (last < 0 || at[KIND][line] != LOAD || at[KIND][last] != LOAD
                || at[OBJECT][line] != at[OBJECT][last]) {
                return false;
            }
            // each line has a place of its own behind the nodes that were read
            int place = MOST_NODES + line;
            nodes.set(place, Nodes.SLOT, Machine.localSlot(at[THREAD][line], at[LOCAL][last]));
            at[KIND][line] = SETTING;
            at[OBJECT][line] = NONE;
            at[FROM][line] = place;
            at[TO][line] = place + 1;
            return true;
        }
    }

    /** Reads programs and laws, token by token, up to the first fault. */
    private static final class Reader {
        static final int BAD_BYTE = 1, CANT_COME = 2, BAD_NAME = 3, TOO_MUCH = 4, NO_THREAD = 5;
        static final int LEVELS = 5, TEST_LEVEL = 2;
        static final String CALLS = "write read plus push pop put get";
        static final int CALL_WORDS = 7;

        final Tokens tokens;
        final Program program;
        final Nodes lawNodes;
        final long[] callWords = Tokens.codes(CALLS, CALL_WORDS);
        /** The word of a start or join, and where it stands: all threads are known at the end alone. */
        final long[] aimed = new long[MOST_LINES];
        final int[] aimedAt = new int[MOST_LINES];
        final int[] cuts = new int[4];
        Nodes nodes;
        boolean ofLaw, fair;
        int law, fault, place, counted, thread;

        Reader(Tokens tokens, Program program, Nodes lawNodes) {
            this.tokens = tokens;
            this.program = program;
            this.lawNodes = lawNodes;
            nodes = lawNodes;
            place = NONE;
        }

        private void open(Nodes into, boolean isLaw) {
            nodes = into;
            nodes.size = 0;
            ofLaw = isLaw;
            fault = 0;
            place = NONE;
            counted = 0;
            tokens.cut();
        }

        /** A fault ends the text: all that reads then finds nothing more and comes back. */
        private void blame(int kind) {
            if (fault == 0) {
                fault = tokens.kind == Tokens.BROKEN ? BAD_BYTE : kind;
                place = tokens.start;
            }
            tokens.kind = Tokens.END;
        }

        private void need(int kind) {
            if (tokens.kind == kind) {
                tokens.advance();
            } else {
                blame(CANT_COME);
            }
        }

        private boolean skip(int kind) {
            boolean stands = tokens.kind == kind;
            if (stands) {
                tokens.advance();
            }
            return stands;
        }

        // ---- programs

        void readProgram() {
            program.clear();
            open(program.nodes, false);
            for (int n = 0; n < MOST_BYTES && tokens.kind != Tokens.END; n++) {
                if (skip(Tokens.CELL)) {
                    readCell();
                } else if (skip(Tokens.LOCK_KEY)) {
                    readLock();
                } else if (skip(Tokens.THREAD)) {
                    readThread();
                } else {
                    blame(CANT_COME);
                }
            }
            program.nodeCount = counted;
            aimThreads();
            if (fault == 0) {
                program.layWays();
            }
        }

        /** Whether a new name stands here, with room for one more of its kind. */
        private boolean isNewName(int have, int most) {
            if (tokens.kind != Tokens.WORD) {
                blame(CANT_COME);
            } else if (program.isTold(tokens.meaning)) {
                blame(BAD_NAME);
            } else if (have >= most) {
                blame(TOO_MUCH);
            }
            return tokens.kind == Tokens.WORD;
        }

        private void readCell() {
            if (!isNewName(program.cellCount, MOST_CELLS)) {
                return;
            }
            int c = program.addCell(tokens.meaning);
            tokens.advance();
            if (skip(Tokens.VOLATILE)) {
                program.volatileCells |= 1 << c;
            }
            if (skip('=')) {
                boolean negative = skip('-');
                int value = (int) tokens.meaning;
                need(Tokens.NUMBER);
                program.firstValue[c] = negative ? -value : value;
            }
            need(';');
        }

        private void readLock() {
            if (isNewName(program.lockCount, MOST_LOCKS)) {
                program.addLock(tokens.meaning);
                tokens.advance();
                need(';');
            }
        }

        private void readThread() {
            if (isNewName(program.threadCount, MOST_THREADS)) {
                thread = program.addThread(tokens.meaning);
                tokens.advance();
                if (skip(Tokens.LATER)) {
                    program.laterThreads |= 1 << thread;
                }
                readBlock(1, -1, 0);
            }
        }

        private void readBlock(int depth, int parent, int part) {
            if (tokens.kind == '{' && depth > MOST_DEPTH) {
                blame(TOO_MUCH);
            }
            need('{');
            int last = -1;
            for (int n = 0; n <= MOST_LINES && tokens.kind != '}'; n++) {
                if (!mayBegin()) {
                    return;
                }
                int line = program.addLine(thread, parent, part, depth - 1);
                program.link(last, line);
                last = line;
                readStatement(line, depth);
            }
            need('}');
        }

        private boolean mayBegin() {
            boolean isWord = tokens.kind == Tokens.WORD;
            int name = isWord ? program.named(tokens.meaning) : -1;
            if (!isWord && (tokens.kind < Tokens.FIRST_KEY || tokens.kind > Tokens.WHILE_KEY)) {
                blame(CANT_COME);
            } else if (Program.isLock(name) || Program.isThread(name)) {
                blame(BAD_NAME);
            } else if (program.lineCount >= MOST_LINES) {
                blame(TOO_MUCH);
            }
            return tokens.kind != Tokens.END;
        }

        private void readStatement(int line, int depth) {
            int kind;
            if (tokens.kind == Tokens.WORD) {
                kind = readTarget(line);
            } else {
                kind = tokens.kind - Tokens.FIRST_KEY + CAS;
                tokens.advance();
                readObject(line, kind);
            }
            int[][] at = program.at;
            at[Program.KIND][line] = kind;
            at[Program.FROM][line] = nodes.size;
            if (hasExp(kind)) {
                readLevel(0, 1);
            }
            at[Program.TO][line] = nodes.size;
            if (kind == CAS) {
                need(',');
                at[Program.FROM2][line] = nodes.size;
                readLevel(0, 1);
                at[Program.TO2][line] = nodes.size;
            }
            if (kind == CAS || kind == ADD) {
                readInto(line);
            }
            if (kind != IF && kind != WHILE) {
                need(';');
                return;
            }
            readBlock(depth + 1, line, 0);
            if (kind == IF && skip(Tokens.ELSE)) {
                readBlock(depth + 1, line, 1);
            }
        }

        private boolean hasExp(int kind) {
            if (kind == CALL || kind == REPLY) {
                return tokens.kind != ';';
            }
            return kind == SETTING || kind >= STORE && kind <= ADD || kind == ASSERT || kind == IF || kind == WHILE;
        }

        /** A statement that begins with a word, up to its expression; all of a load. Its kind. */
        private int readTarget(int line) {
            int name = program.named(tokens.meaning);
            if (Program.isCell(name)) {
                program.at[Program.OBJECT][line] = name;
                tokens.advance();
                need('=');
                return STORE;
            }
            readLocal(line);
            need('=');
            int loaded = tokens.kind == Tokens.WORD ? program.named(tokens.meaning) : -1;
            if (!Program.isCell(loaded)) {
                return SETTING;
            }
            program.at[Program.OBJECT][line] = loaded;
            tokens.advance();
            return LOAD;
        }

        /** The local that a line sets. */
        private void readLocal(int line) {
            int i = localHere();
            if (i >= 0) {
                program.at[Program.LOCAL][line] = i;
                tokens.advance();
            }
        }

        /** The local that the word here is, a new one too; less than 0 (and a fault) if there are too many. */
        private int localHere() {
            int i = Program.find(program.locals, thread * MOST_LOCALS, program.localCount[thread], tokens.meaning);
            if (i >= 0) {
                return i;
            }
            if (program.localCount[thread] >= MOST_LOCALS) {
                blame(TOO_MUCH);
                return -1;
            }
            return program.addLocal(thread, tokens.meaning);
        }

        /** What stands behind the first word of a statement, ahead of its expression. */
        private void readObject(int line, int kind) {
            int name = tokens.kind == Tokens.WORD ? program.named(tokens.meaning) : -1;
            if (kind == CAS || kind == ADD) {
                needName(line, Program.isCell(name), name);
                need(',');
            } else if (kind >= LOCK && kind <= WAKEALL) {
                needName(line, Program.isLock(name), name - Program.FIRST_LOCK);
            } else if (kind == START || kind == JOIN) {
                aimed[line] = tokens.meaning;
                aimedAt[line] = tokens.start;
                need(Tokens.WORD);
            } else if (kind == CALL) {
                program.at[Program.CALLED][line] = Program.find(callWords, 0, CALL_WORDS, tokens.meaning);
                need(Tokens.WORD);
            }
        }

        private void needName(int line, boolean fits, int number) {
            if (tokens.kind == Tokens.WORD && !fits) {
                blame(BAD_NAME);
            }
            program.at[Program.OBJECT][line] = number;
            need(Tokens.WORD);
        }

        private void readInto(int line) {
            if (!skip(Tokens.INTO)) {
                return;
            }
            if (tokens.kind != Tokens.WORD) {
                blame(CANT_COME);
            } else if (program.named(tokens.meaning) >= 0) {
                blame(BAD_NAME);
            } else {
                readLocal(line);
            }
        }

        private void aimThreads() {
            for (int i = 0; i < program.lineCount && fault == 0; i++) {
                int kind = program.at[Program.KIND][i];
                if (kind == START || kind == JOIN) {
                    int name = program.named(aimed[i]);
                    program.at[Program.OBJECT][i] = name - Program.FIRST_THREAD;
                    if (!Program.isThread(name)) {
                        fault = NO_THREAD;
                        place = aimedAt[i];
                    }
                }
            }
        }

        // ---- expressions

        private static int levelOf(int sign) {
            switch (sign) {
                case '|':
                    return 0;
                case '&':
                    return 1;
                case Nodes.EQUAL:
                case Nodes.UNLIKE:
                case Nodes.AT_MOST:
                case Nodes.AT_LEAST:
                case '<':
                case '>':
                    return TEST_LEVEL;
                case '+':
                case '-':
                    return 3;
                case '*':
                    return 4;
                default:
                    return -1;
            }
        }

        /** What operators of a level join, those of the greater levels within. */
        private void readLevel(int level, int depth) {
            readSide(level + 1, depth);
            for (int n = 0; n < MOST_NODES && levelOf(tokens.kind) == level; n++) {
                int sign = tokens.kind;
                if (!countNode()) {
                    return;
                }
                tokens.advance();
                readSide(level + 1, depth);
                nodes.put(sign, 0);
                if (level == TEST_LEVEL) {
                    return;
                }
            }
        }

        private void readSide(int level, int depth) {
            if (level < LEVELS) {
                readLevel(level, depth);
            } else {
                readOne(depth);
            }
        }

        private boolean countNode() {
            if (counted >= MOST_NODES) {
                blame(TOO_MUCH);
                return false;
            }
            counted++;
            return true;
        }

        private boolean beginsOne(int kind) {
            if (ofLaw && kind >= Tokens.ENDED_KEY && kind <= Tokens.STUCK) {
                return true;
            }
            return kind == Tokens.NUMBER || kind == Tokens.WORD || kind == '-' || kind == '!' || kind == '(';
        }

        /** Whether a word can't stand in an expression here: laws have names there, lines have locals. */
        private boolean isStray() {
            if (tokens.kind != Tokens.WORD) {
                return false;
            }
            int name = program.named(tokens.meaning);
            return ofLaw ? name < 0 || name >= Program.FIRST_LOCK && name < Program.FIRST_THREAD : name >= 0;
        }

        private void readOne(int depth) {
            int kind = tokens.kind;
            if (!beginsOne(kind)) {
                blame(CANT_COME);
            } else if (isStray()) {
                blame(BAD_NAME);
            } else if (depth > MOST_DEPTH) {
                blame(TOO_MUCH);
            } else if (kind == '(') {
                tokens.advance();
                readLevel(0, depth + 1);
                need(')');
            } else if (countNode()) {
                readNode(kind, depth);
            }
        }

        private void readNode(int kind, int depth) {
            if (kind == Tokens.NUMBER) {
                nodes.put(Nodes.VALUE, (int) tokens.meaning);
                tokens.advance();
            } else if (kind == '-' || kind == '!') {
                tokens.advance();
                readOne(depth + 1);
                nodes.put(kind == '-' ? Nodes.MINUS : '!', 0);
            } else if (ofLaw && kind == Tokens.WORD) {
                readCellOrLocal();
            } else if (ofLaw) {
                readAsked(kind);
            } else {
                int i = localHere();
                if (i >= 0) {
                    nodes.put(Nodes.SLOT, Machine.localSlot(thread, i));
                    tokens.advance();
                }
            }
        }

        // ---- laws

        void readLaw() {
            open(lawNodes, true);
            law = tokens.kind;
            fair = skip(Tokens.FAIR);
            if (fair) {
                law = tokens.kind == Tokens.MUST ? Tokens.MUST : Tokens.LEADS;
            }
            if (law >= Tokens.ALWAYS && law <= Tokens.MUST) {
                tokens.advance();
                readFact(0);
            } else {
                law = Tokens.LEADS;
                readFact(0);
                need(Tokens.LEADS);
                readFact(1);
            }
            if (tokens.kind != Tokens.END) {
                blame(CANT_COME);
            }
        }

        private void readFact(int which) {
            cuts[2 * which] = nodes.size;
            readLevel(0, 1);
            cuts[2 * which + 1] = nodes.size;
        }

        /** What laws ask of threads and locks by words of their own. */
        private void readAsked(int kind) {
            tokens.advance();
            if (kind == Tokens.STUCK) {
                nodes.put(Nodes.SLOT, Machine.STUCK);
                return;
            }
            int name = program.named(tokens.meaning);
            boolean fits = kind == Tokens.HELD ? Program.isLock(name) : Program.isThread(name);
            if (tokens.kind == Tokens.WORD && !fits) {
                blame(BAD_NAME);
            }
            need(Tokens.WORD);
            if (kind == Tokens.HELD) {
                nodes.put(Nodes.SLOT, Machine.HOLDER + name - Program.FIRST_LOCK);
            } else {
                int status = kind == Tokens.ENDED_KEY ? ENDED : kind == Tokens.WRONG_KEY ? WRONG : WAITS;
                nodes.put(Nodes.THREAD_IS, (name - Program.FIRST_THREAD) * 8 + status);
            }
        }

        private void readCellOrLocal() {
            int name = program.named(tokens.meaning);
            tokens.advance();
            if (Program.isCell(name)) {
                nodes.put(Nodes.SLOT, Machine.MEMORY + name);
                return;
            }
            need('.');
            int t = name - Program.FIRST_THREAD;
            int i = program.localOf(t, tokens.meaning);
            if (tokens.kind == Tokens.WORD && i < 0) {
                blame(BAD_NAME);
            }
            need(Tokens.WORD);
            nodes.put(Nodes.SLOT, Machine.localSlot(t, i));
        }
    }

    /** One state of a program by a way of memory, and the steps from it. */
    private static final class Machine {
        static final int STATUS = 0, NEXT = 4, WHY = 8, TIMES = 12, LOCALS = 16, HOLDER = 40, TAKEN = 44, MEMORY = 48;
        static final int QUEUED = 56, QUEUE = 60, QUEUE_LENGTH = 3;
        static final int WRITES = 72, VALUES = 80, WRITE_VIEWS = 152, MOST_WRITES = 9;
        static final int THREAD_VIEWS = 224, LOCK_VIEWS = 228, FENCE_VIEW = 232;
        /** The sort that the state has as an end; whether it is stuck, for laws alone: no row has that. */
        static final int SORT = 233, STUCK = 234;
        static final int ALWAYS_ZERO = 235, SIZE = 236;
        /** How long rows are at most: of outcomes, of states by views and by the other ways. */
        static final int OUTCOME_WIDTH = 17, WIDTH = 110, OTHER_WIDTH = 37;

        final int[] now = new int[SIZE], kept = new int[SIZE];
        /** The steps that can be taken, each a thread times 10 and its choice. */
        final int[] ready = new int[MOST_THREADS * 10];
        int readyCount;
        /** The slots that tell states of this program and way apart; those that tell outcomes apart stand first. */
        final int[] slots = new int[2 * WIDTH];
        int slotCount, outcomeSlotCount;
        Program program;
        int way;
        /** Of the step taken last: its line, what it was, the value that it told. */
        int line, act, told;
        private int target;

        static int localSlot(int t, int i) {
            return LOCALS + t * MOST_LOCALS + i;
        }

        // ---- the first state

        void enterFirst(Program of, int byWay) {
            program = of;
            way = byWay;
            Arrays.fill(now, 0);
            for (int c = 0; c < program.cellCount; c++) {
                now[MEMORY + c] = program.firstValue[c];
                if (way == VIEWS) {
                    now[WRITES + c] = 1;
                    now[VALUES + c * MOST_WRITES] = program.firstValue[c];
                }
            }
            for (int lock = 0; lock < MOST_LOCKS; lock++) {
                now[HOLDER + lock] = -1;
            }
            for (int t = 0; t < MOST_THREADS; t++) {
                now[NEXT + t] = -1;
                if (t < program.threadCount && (program.laterThreads >> t & 1) == 0) {
                    go(t, program.head[t]);
                }
            }
        }

        private void go(int t, int line) {
            now[NEXT + t] = line;
            now[STATUS + t] = line < 0 ? ENDED : RUNS;
        }

        // ---- rows of a state

        void pickSlots() {
            slotCount = 0;
            pick(SORT, 1);
            pick(MEMORY, program.cellCount);
            for (int t = 0; t < program.threadCount; t++) {
                pick(localSlot(t, 0), program.localCount[t]);
            }
            makeEven();
            outcomeSlotCount = slotCount;
            for (int field = STATUS; field < LOCALS; field += MOST_THREADS) {
                pick(field, program.threadCount);
            }
            pick(HOLDER, program.lockCount);
            pick(TAKEN, program.lockCount);
            if (way == BUFFERS) {
                pick(QUEUED, program.threadCount);
                pick(QUEUE, program.threadCount * QUEUE_LENGTH);
            }
            if (way == VIEWS) {
                pick(WRITES, program.cellCount);
                pick(VALUES, program.cellCount * MOST_WRITES);
                pick(WRITE_VIEWS, program.cellCount * MOST_WRITES);
                pick(THREAD_VIEWS, program.threadCount);
                pick(LOCK_VIEWS, program.lockCount);
                pick(FENCE_VIEW, 1);
            }
            makeEven();
        }

        private void pick(int from, int many) {
            for (int i = 0; i < many; i++) {
                slots[slotCount] = from + i;
                slotCount++;
            }
        }

        /** Two slots go into one number of a row. */
        private void makeEven() {
            if (slotCount % 2 != 0) {
                pick(ALWAYS_ZERO, 1);
            }
        }

        void pack(long[] row) {
            now[SORT] = sort();
            for (int i = 0; i < slotCount; i += 2) {
                row[i / 2] = (long) now[slots[i]] << 32 | now[slots[i + 1]] & 0xFFFFFFFFL;
            }
        }

        void unpack(long[] rows, int from) {
            for (int i = 0; i < slotCount; i += 2) {
                long two = rows[from + i / 2];
                now[slots[i]] = (int) (two >> 32);
                now[slots[i + 1]] = (int) two;
            }
        }

        void keep() {
            System.arraycopy(now, 0, kept, 0, SIZE);
        }

        void comeBack() {
            System.arraycopy(kept, 0, now, 0, SIZE);
        }

        // ---- which steps are ready

        int listReady() {
            readyCount = 0;
            for (int t = 0; t < program.threadCount; t++) {
                int many = choices(t);
                for (int i = 0; i < many; i++) {
                    ready[readyCount] = t * 10 + i;
                    readyCount++;
                }
                if (now[QUEUED + t] > 0) {
                    ready[readyCount] = t * 10 + FLUSH;
                    readyCount++;
                }
            }
            return readyCount;
        }

        boolean isReady(int t, int choice) {
            if (t < 0 || t >= program.threadCount || choice < 0) {
                return false;
            }
            return choice < choices(t) || choice == FLUSH && now[QUEUED + t] > 0;
        }

        /** How many choices the next line of a thread has: 0 if it is not ready. */
        int choices(int t) {
            int next = now[NEXT + t];
            if (next < 0 || now[STATUS + t] == WAITS) {
                return 0;
            }
            int object = program.at[Program.OBJECT][next];
            boolean queued = now[QUEUED + t] > 0;
            if (now[STATUS + t] == WOKEN) {
                return now[HOLDER + object] < 0 && !queued ? 1 : 0;
            }
            int kind = program.at[Program.KIND][next];
            if (queued && needsEmptyQueue(kind, object)) {
                return 0;
            }
            switch (kind) {
                case LOAD:
                    return way == VIEWS && !program.isVolatile(object) ? now[WRITES + object] - viewed(t, object) : 1;
                case STORE:
                case CAS:
                case ADD:
                    return hasRoom(t, next, kind) ? 1 : 0;
                case LOCK:
                    return now[HOLDER + object] < 0 || now[HOLDER + object] == t ? 1 : 0;
                case WAKE:
                    return now[HOLDER + object] == t ? Math.max(1, waiters(object)) : 1;
                case JOIN:
                    return now[STATUS + object] == ENDED && now[QUEUED + object] == 0 ? 1 : 0;
                default:
                    return 1;
            }
        }

        private boolean needsEmptyQueue(int kind, int object) {
            return kind >= CAS && kind <= FENCE || kind == STORE && program.isVolatile(object);
        }

        private boolean hasRoom(int t, int next, int kind) {
            if (way == BUFFERS) {
                return now[QUEUED + t] < QUEUE_LENGTH;
            }
            int[][] at = program.at;
            int c = at[Program.OBJECT][next];
            if (way == TURNS || now[WRITES + c] < MOST_WRITES) {
                return true;
            }
            if (kind != CAS) {
                return false;
            }
            int wanted = program.nodes.workOut(at[Program.FROM][next], at[Program.TO][next], now);
            boolean beyond = program.nodes.beyond;
            program.nodes.workOut(at[Program.FROM2][next], at[Program.TO2][next], now);
            return beyond || program.nodes.beyond || now[MEMORY + c] != wanted;
        }

        private boolean waitsFor(int t, int lock) {
            return now[STATUS + t] == WAITS && program.at[Program.OBJECT][now[NEXT + t]] == lock;
        }

        private int waiters(int lock) {
            int many = 0;
            for (int t = 0; t < program.threadCount; t++) {
                if (waitsFor(t, lock)) {
                    many++;
                }
            }
            return many;
        }

        /** 0 all that were started have ended, 2 one went wrong, 1 else. */
        int sort() {
            boolean allEnded = true;
            for (int t = 0; t < program.threadCount; t++) {
                int status = now[STATUS + t];
                if (status == WRONG) {
                    return 2;
                }
                allEnded = allEnded && (status == 0 || status == ENDED);
            }
            return allEnded ? 0 : 1;
        }

        int locksOf(int t) {
            int bits = 0;
            for (int lock = 0; lock < program.lockCount; lock++) {
                if (now[HOLDER + lock] == t) {
                    bits |= 1 << lock;
                }
            }
            return bits;
        }

        /** The lock that the next step of a thread is to take, whether it can be had or not; or less than 0. */
        int lockAhead(int t) {
            int next = now[NEXT + t];
            boolean takes = next >= 0
                && (now[STATUS + t] == WOKEN || now[STATUS + t] == RUNS && program.at[Program.KIND][next] == LOCK);
            return takes ? program.at[Program.OBJECT][next] : -1;
        }

        // ---- steps

        /** Takes a step that is ready. */
        void take(int t, int choice) {
            told = 0;
            if (choice == FLUSH) {
                line = NONE;
                act = FLUSHING;
                flush(t);
                return;
            }
            line = now[NEXT + t];
            int object = program.at[Program.OBJECT][line];
            target = program.at[Program.ELSEWHERE][line];
            if (now[STATUS + t] == WOKEN) {
                act = TAKING;
                takeBack(t, object);
                return;
            }
            act = program.at[Program.KIND][line];
            int why;
            if (act <= ADD) {
                why = touch(t, object, choice);
            } else if (act <= WAKEALL) {
                why = useLock(t, object, choice);
            } else {
                why = act <= HALT ? meet(t, object) : tell();
            }
            if (why != 0) {
                now[STATUS + t] = WRONG;
                now[NEXT + t] = -1;
                now[WHY + t] = why;
                act = NOTHING;
            } else if (now[STATUS + t] == RUNS) {
                go(t, target);
            }
        }

        /** An expression of the line; the field behind from is where it ends. */
        private int workOut(int from) {
            return program.nodes.workOut(program.at[from][line], program.at[from + 1][line], now);
        }

        private void setLocal(int t, int value) {
            int i = program.at[Program.LOCAL][line];
            if (i >= 0) {
                now[localSlot(t, i)] = value;
            }
        }

        /** Settings and all that goes by cells: 0, or why it went wrong. */
        private int touch(int t, int c, int choice) {
            if (act == LOAD) {
                setLocal(t, loadable(t, choice));
                look(t, c, choice);
                return 0;
            }
            int value = workOut(Program.FROM);
            boolean beyond = program.nodes.beyond;
            int other = act == CAS ? workOut(Program.FROM2) : 0;
            if (beyond || program.nodes.beyond) {
                return 1;
            }
            switch (act) {
                case SETTING:
                    setLocal(t, value);
                    return 0;
                case STORE:
                    store(t, c, value);
                    return 0;
                case CAS:
                    swapIf(t, c, value, other);
                    return 0;
                default:
                    return addTo(t, c, value);
            }
        }

        private void swapIf(int t, int c, int wanted, int value) {
            boolean hits = now[MEMORY + c] == wanted;
            lookAtLast(t, c);
            if (hits) {
                write(t, c, value, true);
            }
            setLocal(t, hits ? 1 : 0);
        }

        private int addTo(int t, int c, int more) {
            int was = now[MEMORY + c];
            if (was + more > LARGEST || was + more < -LARGEST) {
                return 1;
            }
            lookAtLast(t, c);
            write(t, c, was + more, true);
            setLocal(t, was);
            return 0;
        }

        private int useLock(int t, int lock, int choice) {
            if (act == LOCK) {
                if (now[TAKEN + lock] >= 9) {
                    return 5;
                }
                now[HOLDER + lock] = t;
                now[TAKEN + lock]++;
                learn(t, now[LOCK_VIEWS + lock]);
                return 0;
            }
            if (now[HOLDER + lock] != t) {
                return 2;
            }
            if (act == UNLOCK) {
                now[TAKEN + lock]--;
                leave(t, lock);
            } else if (act == WAIT) {
                now[TIMES + t] = now[TAKEN + lock];
                now[TAKEN + lock] = 0;
                now[STATUS + t] = WAITS;
                leave(t, lock);
            } else {
                wake(lock, act == WAKE ? choice : -1);
            }
            return 0;
        }

        /** What unlock and wait have alike: the lock knows what the thread does, and is free if nothing is left. */
        private void leave(int t, int lock) {
            now[LOCK_VIEWS + lock] = now[THREAD_VIEWS + t];
            if (now[TAKEN + lock] == 0) {
                now[HOLDER + lock] = -1;
            }
        }

        /** Wakes one of those that wait, by their numbers; all for less than 0. */
        private void wake(int lock, int which) {
            int n = 0;
            for (int t = 0; t < program.threadCount; t++) {
                if (waitsFor(t, lock)) {
                    if (which < 0 || which == n) {
                        now[STATUS + t] = WOKEN;
                    }
                    n++;
                }
            }
        }

        private void takeBack(int t, int lock) {
            now[HOLDER + lock] = t;
            now[TAKEN + lock] = now[TIMES + t];
            now[TIMES + t] = 0;
            learn(t, now[LOCK_VIEWS + lock]);
            go(t, target);
        }

        /** What goes by other threads, and the end of the own one: 0, or why it went wrong. */
        private int meet(int t, int other) {
            if (act == START) {
                return begins(t, other);
            }
            if (act == JOIN) {
                learn(t, now[THREAD_VIEWS + other]);
            } else if (act == FENCE) {
                learn(t, now[FENCE_VIEW]);
                now[FENCE_VIEW] = now[THREAD_VIEWS + t];
            } else {
                target = -1;
            }
            return 0;
        }

        private int begins(int t, int other) {
            if (now[STATUS + other] != 0) {
                return 3;
            }
            go(other, program.head[other]);
            now[THREAD_VIEWS + other] = now[THREAD_VIEWS + t];
            return 0;
        }

        /** All that goes by an expression alone: 0, or why it went wrong. */
        private int tell() {
            int value = workOut(Program.FROM);
            if (program.nodes.beyond) {
                return 1;
            }
            if (act == ASSERT && value == 0) {
                return 4;
            }
            if ((act == IF || act == WHILE) && value != 0) {
                target = program.at[Program.IF_TRUE][line];
            }
            told = value;
            return 0;
        }

        // ---- memory

        boolean mayLoad(int t, int choice) {
            int next = now[NEXT + t];
            return next >= 0 && program.at[Program.KIND][next] == LOAD && choice >= 0 && choice < choices(t);
        }

        /** What the next line of a thread, a load, tells by a choice. */
        int loadable(int t, int choice) {
            int c = program.at[Program.OBJECT][now[NEXT + t]];
            if (way == VIEWS && !program.isVolatile(c)) {
                return now[VALUES + c * MOST_WRITES + viewed(t, c) + choice];
            }
            for (int i = now[QUEUED + t] - 1; i >= 0; i--) {
                int queued = now[QUEUE + t * QUEUE_LENGTH + i];
                if ((queued & 7) == c) {
                    return queued >> 3;
                }
            }
            return now[MEMORY + c];
        }

        private void store(int t, int c, int value) {
            if (way == BUFFERS && !program.isVolatile(c)) {
                now[QUEUE + t * QUEUE_LENGTH + now[QUEUED + t]] = value << 3 | c;
                now[QUEUED + t]++;
            } else {
                write(t, c, value, program.isVolatile(c));
            }
        }

        private void flush(int t) {
            int from = QUEUE + t * QUEUE_LENGTH;
            now[MEMORY + (now[from] & 7)] = now[from] >> 3;
            for (int i = 1; i < QUEUE_LENGTH; i++) {
                now[from + i - 1] = now[from + i];
            }
            now[from + QUEUE_LENGTH - 1] = 0;
            now[QUEUED + t]--;
        }

        private void write(int t, int c, int value, boolean telling) {
            now[MEMORY + c] = value;
            if (way == VIEWS) {
                int n = now[WRITES + c];
                now[WRITES + c]++;
                now[VALUES + c * MOST_WRITES + n] = value;
                view(t, c, n);
                now[WRITE_VIEWS + c * MOST_WRITES + n] = telling ? now[THREAD_VIEWS + t] : 0;
            }
        }

        private int viewed(int t, int c) {
            return now[THREAD_VIEWS + t] >>> 4 * c & 15;
        }

        private void view(int t, int c, int n) {
            now[THREAD_VIEWS + t] = now[THREAD_VIEWS + t] & ~(15 << 4 * c) | n << 4 * c;
        }

        /** What a load does to the thread's view. */
        private void look(int t, int c, int choice) {
            if (way != VIEWS) {
                return;
            }
            if (program.isVolatile(c)) {
                learn(t, now[WRITE_VIEWS + c * MOST_WRITES + now[WRITES + c] - 1]);
            } else {
                view(t, c, viewed(t, c) + choice);
            }
        }

        private void lookAtLast(int t, int c) {
            if (way == VIEWS) {
                int last = now[WRITES + c] - 1;
                view(t, c, last);
                learn(t, now[WRITE_VIEWS + c * MOST_WRITES + last]);
            }
        }

        /** The thread's view becomes the greater one for each cell. */
        private void learn(int t, int other) {
            int own = now[THREAD_VIEWS + t];
            int both = 0;
            for (int shift = 0; shift < 4 * MOST_CELLS; shift += 4) {
                both |= Math.max(own >>> shift & 15, other >>> shift & 15) << shift;
            }
            now[THREAD_VIEWS + t] = both;
        }
    }

    /** Rows of numbers, each kept once, in the order in which they came. */
    private static final class Rows {
        final long[] data;
        /** Where each row stands in the data. */
        final int[] start;
        /** Where rows are looked for: their numbers and 1. */
        final int[] table;
        int size, width, limit;

        Rows(long[] data, int most, int tableSize) {
            this.data = data;
            start = new int[most];
            table = new int[tableSize];
        }

        /** There must be room for so many rows of this width. */
        void clear(int rowWidth, int rowLimit) {
            width = rowWidth;
            limit = rowLimit;
            size = 0;
            Arrays.fill(table, 0);
        }

        /** The place in the table of a row, or the free one where it would come. */
        private int placeOf(long[] rows, int from) {
            long mixed = 0;
            for (int i = 0; i < width; i++) {
                mixed = (mixed ^ rows[from + i]) * 0x9E3779B97F4A7C15L;
                mixed ^= mixed >>> 29;
            }
            int place = (int) (mixed >>> 32) & table.length - 1;
            for (int n = 0; n < table.length; n++) {
                if (table[place] == 0 || isSame(rows, from, start[table[place] - 1])) {
                    return place;
                }
                place = place + 1 & table.length - 1;
            }
            return place;
        }

        private boolean isSame(long[] rows, int from, int kept) {
            for (int i = 0; i < width; i++) {
                if (rows[from + i] != data[kept + i]) {
                    return false;
                }
            }
            return true;
        }

        /** The number of a row, less than 0 if it is not kept. */
        int numberOf(long[] rows, int from) {
            return table[placeOf(rows, from)] - 1;
        }

        /** The number of a row, which is kept now if it was not; less than 0 if there is no room. */
        int put(long[] rows, int from) {
            int place = placeOf(rows, from);
            if (table[place] == 0) {
                if (size >= limit) {
                    return -1;
                }
                System.arraycopy(rows, from, data, size * width, width);
                name(place, size * width);
            }
            return table[place] - 1;
        }

        /** The number of a row that begins in the data themselves. */
        int refer(int from) {
            int place = placeOf(data, from);
            if (table[place] == 0) {
                name(place, from);
            }
            return table[place] - 1;
        }

        private void name(int place, int from) {
            start[size] = from;
            size++;
            table[place] = size;
        }
    }

    /** All states of a program, and the steps between them. */
    private static final class Turns {
        /** Marks of states: threads that have a ready step, how it was found, its sort and outcome if it is an end. */
        static final int READY_THREADS = 15, BY_WHILE = 16, STUCK_END = 32, OUTCOME_SHIFT = 8;
        /** A power of 2 above the number of states. */
        static final int TABLE = 1 << 15;

        final Machine machine = new Machine();
        final Findings findings = new Findings();
        final Rows states = new Rows(new long[Machine.OTHER_WIDTH * MOST_STATES], MOST_STATES, TABLE);
        /** Outcomes are what the rows of their first states begin with. */
        final Rows outcomes = new Rows(states.data, MOST_STATES, TABLE);
        /** Steps as the state they come to, or by which a state was found, times 64, the thread times 16, the choice. */
        final int[] edges = new int[MOST_TRIED], found = new int[MOST_STATES];
        final int[] edgeStart = new int[MOST_STATES + 1];
        final int[] mark = new int[MOST_STATES];
        final long[] row = new long[Machine.WIDTH];
        final int[] priority = new int[MOST_THREADS];
        final int[] switches = new int[MOST_STATES * MOST_THREADS];
        final int[] layer = new int[MOST_STATES * MOST_THREADS], nextLayer = new int[MOST_STATES * MOST_THREADS];
        int edgeCount, endCount, layerSize, nextSize;
        boolean done, fewer, switchesCounted;

        int tryAll(Program program, int way, boolean byFewer) {
            done = false;
            fewer = byFewer;
            switchesCounted = false;
            edgeCount = 0;
            endCount = 0;
            machine.enterFirst(program, way);
            machine.pickSlots();
            findings.clear(program);
            states.clear(machine.slotCount / 2, way == VIEWS ? MOST_VIEW_STATES : MOST_STATES);
            outcomes.clear(machine.outcomeSlotCount / 2, MOST_STATES);
            machine.pack(row);
            states.put(row, 0);
            mark[0] = 0;
            found[0] = -1;
            boolean fits = true;
            for (int s = 0; s < MOST_STATES && s < states.size && fits; s++) {
                int only = lookAround(s);
                int many = machine.readyCount;
                for (int i = 0; i < many && fits; i++) {
                    int step = machine.ready[i];
                    fits = only >= 0 && step != only || tryStep(s, step);
                }
            }
            edgeStart[states.size] = edgeCount;
            done = fits;
            return fits ? states.size : FULL;
        }

        /** Comes to a state and notes what is told of it: the only step to be tried there, less than 0 for all. */
        private int lookAround(int s) {
            machine.unpack(states.data, s * states.width);
            machine.keep();
            int many = machine.listReady();
            for (int i = 0; i < many; i++) {
                mark[s] |= 1 << machine.ready[i] / 10;
            }
            edgeStart[s] = edgeCount;
            findings.see(machine, s);
            if (many == 0) {
                noteEnd(s);
            }
            return fewer && (mark[s] & BY_WHILE) == 0 ? quietStep() : -1;
        }

        /** The step of the least thread whose next line no other thread can see; less than 0 if there is none. */
        private int quietStep() {
            for (int t = 0; t < machine.program.threadCount; t++) {
                if (machine.now[Machine.STATUS + t] == RUNS) {
                    int kind = machine.program.at[Program.KIND][machine.now[Machine.NEXT + t]];
                    if (kind == SETTING || kind >= HALT && kind <= IF) {
                        return t * 10;
                    }
                }
            }
            return -1;
        }

        /** Whether there was room for what comes of a step from a state. */
        private boolean tryStep(int s, int step) {
            int t = step / 10, choice = step % 10;
            machine.comeBack();
            if (choice != FLUSH) {
                findings.noteTaking(machine, t);
            }
            machine.take(t, choice);
            machine.pack(row);
            int known = states.size;
            int to = states.put(row, 0);
            if (to < 0 || edgeCount >= MOST_TRIED) {
                return false;
            }
            int edge = t << 4 | choice;
            if (to == known) {
                found[to] = s << 6 | edge;
                mark[to] = isWhile(machine.line) ? BY_WHILE : 0;
            }
            edges[edgeCount] = to << 6 | edge;
            edgeCount++;
            return true;
        }

        private boolean isWhile(int line) {
            return line >= 0 && machine.program.at[Program.KIND][line] == WHILE;
        }

        private void noteEnd(int s) {
            endCount++;
            if (machine.now[Machine.SORT] != 0) {
                mark[s] |= STUCK_END;
                findings.seeStuck(machine, s);
            }
            mark[s] |= outcomes.refer(s * states.width) + 1 << OUTCOME_SHIFT;
        }

        boolean hasState(int s) {
            return done && s >= 0 && s < states.size;
        }

        boolean hasOutcome(int i) {
            return done && i >= 0 && i < outcomes.size;
        }

        /** The first state that has an outcome. */
        int stateOfOutcome(int i) {
            return states.width > 0 ? outcomes.start[i] / states.width : 0;
        }

        int slotOfOutcome(int i, int slot) {
            machine.unpack(states.data, outcomes.start[i]);
            return machine.now[slot];
        }

        static int stateOf(int edge) {
            return edge >> 6;
        }

        static int threadOf(int edge) {
            return edge >> 4 & 3;
        }

        int readyThreads(int s) {
            return mark[s] & READY_THREADS;
        }

        // ---- schedules

        int scheduleLength(int state) {
            int length = 0;
            int s = state;
            for (int n = 0; n < MOST_STATES && s > 0; n++) {
                s = stateOf(found[s]);
                length++;
            }
            return length;
        }

        /** The step of a schedule that has so many behind it, as the thread times 10 and the choice. */
        int scheduledStep(int state, int behind) {
            int s = state;
            for (int n = 0; n < behind && s > 0; n++) {
                s = stateOf(found[s]);
            }
            return s > 0 ? threadOf(found[s]) * 10 + (found[s] & 15) : BAD;
        }

        // ---- switches

        int fewestSwitches(int i) {
            if (!switchesCounted) {
                countSwitches();
                switchesCounted = true;
            }
            int first = stateOfOutcome(i);
            if (first == 0) {
                return 0;
            }
            int fewest = MOST_TRIED;
            for (int s = first; s < states.size; s++) {
                for (int t = 0; t < MOST_THREADS && mark[s] >> OUTCOME_SHIFT == i + 1; t++) {
                    fewest = Math.min(fewest, switches[s * MOST_THREADS + t]);
                }
            }
            return fewest;
        }

        /** Goes through states, each with the thread that came there last, by how many switches it takes. */
        private void countSwitches() {
            Arrays.fill(switches, MOST_TRIED);
            layerSize = 0;
            for (int e = edgeStart[0]; e < edgeStart[1]; e++) {
                reach(stateOf(edges[e]) * MOST_THREADS + threadOf(edges[e]), 0, 0);
            }
            for (int level = 0; level < MOST_TRIED && layerSize > 0; level++) {
                nextSize = 0;
                for (int i = 0; i < layer.length && i < layerSize; i++) {
                    if (switches[layer[i]] == level) {
                        leaveFrom(layer[i], level);
                    }
                }
                layerSize = nextSize;
                System.arraycopy(nextLayer, 0, layer, 0, nextSize);
            }
        }

        private void leaveFrom(int node, int level) {
            int s = node / MOST_THREADS, last = node % MOST_THREADS;
            boolean couldGoOn = (mark[s] >> last & 1) != 0;
            for (int e = edgeStart[s]; e < edgeStart[s + 1]; e++) {
                int t = threadOf(edges[e]);
                reach(stateOf(edges[e]) * MOST_THREADS + t, level, t != last && couldGoOn ? 1 : 0);
            }
        }

        private void reach(int node, int level, int more) {
            if (switches[node] <= level + more) {
                return;
            }
            switches[node] = level + more;
            if (more == 0) {
                layer[layerSize] = node;
                layerSize++;
            } else {
                nextLayer[nextSize] = node;
                nextSize++;
            }
        }

        // ---- chances

        int countChances(int outcome, int d, int k) {
            int orders = 1;
            for (int t = 2; t <= machine.program.threadCount; t++) {
                orders *= t;
            }
            int lastOne = d > 1 ? k : 0, lastOther = d > 2 ? k : 0;
            int many = 0;
            for (int code = 0; code < orders; code++) {
                for (int one = d > 1 ? 1 : 0; one <= lastOne; one++) {
                    // rows of the same two numbers go alike, whichever stands first
                    for (int other = d > 2 ? one : 0; other <= lastOther; other++) {
                        if (drawnOutcome(code, one, other) == outcome) {
                            many += d > 2 && other != one ? 2 : 1;
                        }
                    }
                }
            }
            return many;
        }

        private int drawnOutcome(int code, int one, int other) {
            arrange(code);
            machine.enterFirst(machine.program, TURNS);
            for (int taken = 0; taken <= MOST_STEPS; taken++) {
                int rank = firstReady();
                if (rank < 0) {
                    machine.pack(row);
                    return outcomes.numberOf(row, 0);
                }
                machine.take(priority[rank], 0);
                if (taken + 1 == one || taken + 1 == other) {
                    lower(rank);
                }
            }
            return -1;
        }

        /** One of all orders of the threads, by its number. */
        private void arrange(int code) {
            int count = machine.program.threadCount;
            int rest = code;
            for (int t = 0; t < count; t++) {
                int rank = rest % (t + 1);
                rest /= t + 1;
                System.arraycopy(priority, rank, priority, rank + 1, t - rank);
                priority[rank] = t;
            }
        }

        private int firstReady() {
            for (int rank = 0; rank < machine.program.threadCount; rank++) {
                if (machine.choices(priority[rank]) > 0) {
                    return rank;
                }
            }
            return -1;
        }

        private void lower(int rank) {
            int last = machine.program.threadCount - 1;
            int t = priority[rank];
            System.arraycopy(priority, rank + 1, priority, rank, last - rank);
            priority[last] = t;
        }
    }

    /** What is found in the states that are explored. */
    private static final class Findings {
        /** The least state with a race of two lines, less than 0 if there is none. */
        final int[] raceState = new int[MOST_LINES * MOST_LINES];
        final int[] guards = new int[MOST_CELLS], orders = new int[MOST_LOCKS], ringing = new int[5];
        final int[] touching = new int[MOST_THREADS], reached = new int[MOST_LOCKS];
        int raceCount;

        void clear(Program program) {
            Arrays.fill(raceState, -1);
            Arrays.fill(guards, (1 << program.lockCount) - 1);
            Arrays.fill(orders, 0);
            Arrays.fill(ringing, NONE);
            ringing[0] = 0;
            ringing[3] = 0;
            raceCount = 0;
        }

        void see(Machine machine, int s) {
            Program program = machine.program;
            for (int t = 0; t < program.threadCount; t++) {
                int next = machine.now[Machine.NEXT + t];
                boolean touches = next >= 0 && program.touches(next) && machine.choices(t) > 0;
                touching[t] = touches ? next : -1;
                if (touches) {
                    guards[program.at[Program.OBJECT][next]] &= machine.locksOf(t);
                }
                for (int other = 0; other < t; other++) {
                    if (touches && touching[other] >= 0 && program.clash(next, touching[other])) {
                        noteRace(Math.min(next, touching[other]), Math.max(next, touching[other]), s);
                    }
                }
            }
        }

        private void noteRace(int lesser, int greater, int s) {
            if (raceState[lesser * MOST_LINES + greater] < 0) {
                raceState[lesser * MOST_LINES + greater] = s;
                raceCount++;
            }
        }

        int findRace(int k, int what) {
            if (k < 0) {
                return raceCount;
            }
            int n = 0;
            for (int i = 0; i < MOST_LINES * MOST_LINES; i++) {
                if (raceState[i] >= 0) {
                    if (n == k) {
                        return what == 0 ? i / MOST_LINES : what == 1 ? i % MOST_LINES : raceState[i];
                    }
                    n++;
                }
            }
            return BAD;
        }

        /** An order of locks, if the next step of a thread is to take one that it has not. */
        void noteTaking(Machine machine, int t) {
            int lock = machine.lockAhead(t);
            int has = machine.locksOf(t);
            for (int a = 0; a < MOST_LOCKS && lock >= 0; a++) {
                if ((has >> a & 1) != 0 && (has >> lock & 1) == 0) {
                    orders[a] |= 1 << lock;
                }
            }
        }

        /** Whether orders go round: each lock is told all that comes behind it, over the others too. */
        int crossed() {
            System.arraycopy(orders, 0, reached, 0, MOST_LOCKS);
            for (int over = 0; over < MOST_LOCKS; over++) {
                for (int a = 0; a < MOST_LOCKS; a++) {
                    if ((reached[a] >> over & 1) != 0) {
                        reached[a] |= reached[over];
                    }
                }
            }
            int crossed = 0;
            for (int a = 0; a < MOST_LOCKS; a++) {
                crossed |= reached[a] >> a & 1;
            }
            return crossed;
        }

        void seeStuck(Machine machine, int s) {
            boolean lost = false;
            for (int t = 0; t < machine.program.threadCount; t++) {
                lost = lost || machine.now[Machine.STATUS + t] == WAITS;
            }
            int least = leastInRing(machine);
            if (least >= 0) {
                noteStuck(0, s, least);
            }
            if (lost) {
                noteStuck(3, s, NONE);
            }
        }

        private void noteStuck(int where, int s, int least) {
            if (ringing[where] == 0) {
                ringing[where + 1] = s;
                if (where == 0) {
                    ringing[2] = least;
                }
            }
            ringing[where]++;
        }

        private int leastInRing(Machine machine) {
            for (int t = 0; t < machine.program.threadCount; t++) {
                int one = t;
                for (int n = 0; n < MOST_THREADS && one >= 0; n++) {
                    int lock = machine.lockAhead(one);
                    one = lock < 0 ? -1 : machine.now[Machine.HOLDER + lock];
                    if (one == t) {
                        return t;
                    }
                }
            }
            return -1;
        }
    }

    /** Judges laws for the states explored. */
    private static final class Judge {
        /** Of states: the fact wanted holds; a way is looked at from here; one comes here; a way goes on without it. */
        static final int WANTED = 1, BEGINS = 2, REACHED = 4, LACKING = 8;
        static final int MOST_MOVES = 1000000;

        final Turns turns;
        final Nodes nodes;
        final int[] flags = new int[MOST_STATES];
        /** When a state was come to, the least such that it comes back to, the group that it is in (each 0: none). */
        final int[] number = new int[MOST_STATES], low = new int[MOST_STATES], group = new int[MOST_STATES];
        /** States that have no group yet, the way to where the walk stands, the next edge of each. */
        final int[] open = new int[MOST_STATES], trail = new int[MOST_STATES], next = new int[MOST_STATES];
        int numbered, openCount, trailLength, groups;
        int shown;

        Judge(Turns turns, Nodes nodes) {
            this.turns = turns;
            this.nodes = nodes;
        }

        boolean holds(int law, boolean fair, int[] cuts) {
            flag(cuts, law == Tokens.LEADS);
            switch (law) {
                case Tokens.ALWAYS:
                    shown = least(WANTED, 0);
                    return shown == NONE;
                case Tokens.NEVER:
                    shown = least(WANTED, WANTED);
                    return shown == NONE;
                case Tokens.MAY:
                    shown = least(WANTED, WANTED);
                    return shown != NONE;
                default:
                    findLacking(fair);
                    findReached();
                    shown = least(LACKING | REACHED, LACKING | REACHED);
                    return shown == NONE;
            }
        }

        private void flag(int[] cuts, boolean leads) {
            int[] now = turns.machine.now;
            for (int s = 0; s < turns.states.size; s++) {
                turns.machine.unpack(turns.states.data, s * turns.states.width);
                now[Machine.STUCK] = (turns.mark[s] & Turns.STUCK_END) != 0 ? 1 : 0;
                boolean first = isTrue(cuts[0], cuts[1], now);
                boolean wanted = leads ? isTrue(cuts[2], cuts[3], now) : first;
                boolean begins = leads ? first : s == 0;
                flags[s] = (wanted ? WANTED : 0) | (begins ? BEGINS : 0);
            }
        }

        private boolean isTrue(int from, int to, int[] now) {
            return nodes.workOut(from, to, now) != 0 && !nodes.beyond;
        }

        /** The least state of whose flags these are so. */
        private int least(int mask, int flag) {
            for (int s = 0; s < turns.states.size; s++) {
                if ((flags[s] & mask) == flag) {
                    return s;
                }
            }
            return NONE;
        }

        private boolean isWanted(int s) {
            return (flags[s] & WANTED) != 0;
        }

        private void findReached() {
            openCount = 0;
            for (int s = 0; s < turns.states.size; s++) {
                if ((flags[s] & BEGINS) != 0) {
                    comeTo(s);
                }
            }
            for (int n = 0; n < MOST_STATES && openCount > 0; n++) {
                openCount--;
                int s = open[openCount];
                for (int e = turns.edgeStart[s]; e < turns.edgeStart[s + 1]; e++) {
                    comeTo(Turns.stateOf(turns.edges[e]));
                }
            }
        }

        private void comeTo(int s) {
            if ((flags[s] & (WANTED | REACHED)) == 0) {
                flags[s] |= REACHED;
                open[openCount] = s;
                openCount++;
            }
        }

        /** Parts the states without the fact into groups whose states all come to one another (after Tarjan). */
        private void findLacking(boolean fair) {
            Arrays.fill(number, 0);
            Arrays.fill(group, 0);
            numbered = 0;
            groups = 0;
            openCount = 0;
            for (int s = 0; s < turns.states.size; s++) {
                if (!isWanted(s) && number[s] == 0) {
                    walkFrom(s, fair);
                }
            }
        }

        private void enter(int s) {
            numbered++;
            number[s] = numbered;
            low[s] = numbered;
            next[s] = turns.edgeStart[s];
            open[openCount] = s;
            openCount++;
            trail[trailLength] = s;
            trailLength++;
        }

        private void walkFrom(int root, boolean fair) {
            trailLength = 0;
            enter(root);
            for (int n = 0; n < MOST_MOVES && trailLength > 0; n++) {
                int s = trail[trailLength - 1];
                if (next[s] < turns.edgeStart[s + 1]) {
                    int to = Turns.stateOf(turns.edges[next[s]]);
                    next[s]++;
                    follow(s, to);
                } else {
                    trailLength--;
                    if (trailLength > 0) {
                        low[trail[trailLength - 1]] = Math.min(low[trail[trailLength - 1]], low[s]);
                    }
                    if (low[s] == number[s]) {
                        close(s, fair);
                    }
                }
            }
        }

        private void follow(int s, int to) {
            if (isWanted(to)) {
                return;
            }
            if (number[to] == 0) {
                enter(to);
            } else if (group[to] == 0) {
                low[s] = Math.min(low[s], number[to]);
            }
        }

        /** All that is open down to a state is a group; all that its ways come to has been judged already. */
        private void close(int root, boolean fair) {
            groups++;
            int from = openCount;
            do {
                from--;
                group[open[from]] = groups;
            } while (from > 0 && open[from] != root);
            boolean lacks = false, goesRound = false;
            int atRest = 0;
            for (int i = from; i < openCount; i++) {
                int s = open[i];
                atRest |= ~turns.readyThreads(s);
                lacks = lacks || turns.readyThreads(s) == 0;
                for (int e = turns.edgeStart[s]; e < turns.edgeStart[s + 1]; e++) {
                    int to = Turns.stateOf(turns.edges[e]);
                    if (group[to] == groups) {
                        goesRound = true;
                        atRest |= 1 << Turns.threadOf(turns.edges[e]);
                    }
                    lacks = lacks || (flags[to] & LACKING) != 0;
                }
            }
            // a way round the whole group leaves no thread waiting that rests or steps somewhere in it
            lacks = lacks || goesRound && (!fair || (atRest & Turns.READY_THREADS) == Turns.READY_THREADS);
            for (int i = from; i < openCount && lacks; i++) {
                flags[open[i]] |= LACKING;
            }
            openCount = from;
        }
    }

    /** A run, its steps, and which of them are ahead of which. */
    private static final class Run {
        static final int THREAD = 0, CHOICE = 1, LINE = 2, ACT = 3, OBJECT = 4, TOLD = 5, FIELDS = 6;
        static final int WORDS = 4;

        final Machine machine = new Machine();
        final int[][] at = new int[FIELDS][MOST_STEPS];
        /** For each step the earlier ones that are before it, as bits. */
        final long[] ahead = new long[MOST_STEPS * WORDS];
        int length;
        boolean live;

        void start(Program program, int way) {
            machine.enterFirst(program, way);
            length = 0;
            live = true;
        }

        /** Takes a step that is ready, if there is room for it. */
        void take(int t, int choice) {
            if (length >= MOST_STEPS) {
                return;
            }
            machine.take(t, choice);
            int j = length;
            length++;
            at[THREAD][j] = t;
            at[CHOICE][j] = choice;
            at[LINE][j] = machine.line;
            at[ACT][j] = machine.act;
            at[OBJECT][j] = machine.line < 0 ? NONE : machine.program.at[Program.OBJECT][machine.line];
            at[TOLD][j] = machine.told;
            for (int word = 0; word < WORDS; word++) {
                ahead[j * WORDS + word] = 0;
            }
            for (int i = 0; i < j; i++) {
                if (leadsTo(i, j)) {
                    putAhead(i, j);
                }
            }
        }

        private void putAhead(int i, int j) {
            for (int word = 0; word < WORDS; word++) {
                ahead[j * WORDS + word] |= ahead[i * WORDS + word];
            }
            ahead[j * WORDS + i / 64] |= 1L << i % 64;
        }

        boolean isAhead(int i, int j) {
            return (ahead[j * WORDS + i / 64] >> i % 64 & 1) != 0;
        }

        /** Whether a step is before a later one, with none in between. */
        private boolean leadsTo(int i, int j) {
            int one = at[ACT][i], other = at[ACT][j];
            if (one == FLUSHING || other == FLUSHING) {
                return false;
            }
            if (at[THREAD][i] == at[THREAD][j]
                || one == START && at[OBJECT][i] == at[THREAD][j]
                || other == JOIN && at[OBJECT][j] == at[THREAD][i]
                || one == FENCE && other == FENCE) {
                return true;
            }
            boolean frees = one == UNLOCK || one == WAIT, takes = other == LOCK || other == TAKING;
            return at[OBJECT][i] == at[OBJECT][j] && (frees && takes || tells(i) && hears(j));
        }

        private boolean tells(int i) {
            int act = at[ACT][i];
            return act == CAS || act == ADD || act == STORE && machine.program.isVolatile(at[OBJECT][i]);
        }

        private boolean hears(int i) {
            int act = at[ACT][i];
            return act == CAS || act == ADD || act == LOAD && machine.program.isVolatile(at[OBJECT][i]);
        }

        private boolean touches(int i) {
            return at[ACT][i] >= LOAD && at[ACT][i] <= ADD;
        }

        int findRace(int k, int what) {
            int n = 0;
            for (int j = 0; j < length; j++) {
                for (int i = 0; i < j && touches(j); i++) {
                    if (touches(i) && !isAhead(i, j) && machine.program.clash(at[LINE][i], at[LINE][j])) {
                        if (n == k) {
                            return what == 0 ? i : j;
                        }
                        n++;
                    }
                }
            }
            return k < 0 ? n : BAD;
        }
    }

    /** The calls of a run, put in one order by what a structure answers. */
    private static final class History {
        static final int MOST_CALLS = 12;
        static final int THREAD = 0, WORD = 1, VALUE = 2, BEGUN = 3, REPLIED = 4, ANSWER = 5, FIELDS = 6;
        static final int CELL = 0, SUM = 1, STACK = 2;
        /** The words by which a structure is changed, and by which it is asked, by their places in Reader.CALLS. */
        static final int[] CHANGING = {0, 2, 3, 5}, ASKING = {1, 1, 4, 6};

        final int[][] calls = new int[FIELDS][MOST_STEPS];
        /** For each number of calls in the order: what the structure has then, and how many things that are. */
        final int[][] content = new int[MOST_CALLS + 1][MOST_CALLS + 1];
        final int[] contentSize = new int[MOST_CALLS + 1];
        final int[] open = new int[MOST_THREADS], chosen = new int[MOST_CALLS];
        /** The order told last. */
        final int[] told = new int[MOST_CALLS];
        int toldLength, length, callCount, repliedCalls, structure;

        int arrange(Run run, int byStructure) {
            structure = byStructure;
            if (!gather(run)) {
                return NONE;
            }
            if (callCount > MOST_CALLS) {
                return FULL;
            }
            repliedCalls = 0;
            for (int i = 0; i < callCount; i++) {
                if (calls[REPLIED][i] >= 0) {
                    repliedCalls |= 1 << i;
                }
            }
            content[0][0] = 0;
            contentSize[0] = 0;
            if (!extend(0, 0)) {
                return 0;
            }
            System.arraycopy(chosen, 0, told, 0, length);
            toldLength = length;
            return 1;
        }

        /** Reads the calls of a run; false if the history is broken. */
        private boolean gather(Run run) {
            callCount = 0;
            Arrays.fill(open, -1);
            for (int i = 0; i < run.length; i++) {
                int t = run.at[Run.THREAD][i];
                if (run.at[Run.ACT][i] == CALL) {
                    int word = run.machine.program.at[Program.CALLED][run.at[Run.LINE][i]];
                    if (open[t] >= 0 || word != CHANGING[structure] && word != ASKING[structure]) {
                        return false;
                    }
                    open[t] = callCount;
                    addCall(t, word, run.at[Run.TOLD][i], i);
                } else if (run.at[Run.ACT][i] == REPLY) {
                    if (open[t] < 0) {
                        return false;
                    }
                    calls[REPLIED][open[t]] = i;
                    calls[ANSWER][open[t]] = run.at[Run.TOLD][i];
                    open[t] = -1;
                }
            }
            return true;
        }

        private void addCall(int t, int word, int value, int begun) {
            calls[THREAD][callCount] = t;
            calls[WORD][callCount] = word;
            calls[VALUE][callCount] = value;
            calls[BEGUN][callCount] = begun;
            calls[REPLIED][callCount] = -1;
            calls[ANSWER][callCount] = 0;
            callCount++;
        }

        /** Whether the rest can follow the calls that are placed, so many of them. */
        private boolean extend(int depth, int placed) {
            if ((placed & repliedCalls) == repliedCalls) {
                length = depth;
                return true;
            }
            for (int i = 0; i < callCount && depth < MOST_CALLS; i++) {
                if (mayBeNext(i, placed) && place(i, depth, placed)) {
                    return true;
                }
            }
            return false;
        }

        private boolean place(int i, int depth, int placed) {
            int answer = perform(i, depth);
            if (calls[REPLIED][i] >= 0 && calls[ANSWER][i] != answer) {
                return false;
            }
            chosen[depth] = i;
            return extend(depth + 1, placed | 1 << i);
        }

        private boolean mayBeNext(int i, int placed) {
            if ((placed >> i & 1) != 0) {
                return false;
            }
            for (int j = 0; j < callCount; j++) {
                boolean ended = calls[REPLIED][j] >= 0 && calls[REPLIED][j] < calls[BEGUN][i];
                if (ended && (placed >> j & 1) == 0) {
                    return false;
                }
            }
            return true;
        }

        /** What the structure answers to a call; its content behind the call stands one deeper. */
        private int perform(int i, int depth) {
            int[] have = content[depth], then = content[depth + 1];
            int size = contentSize[depth], value = calls[VALUE][i];
            boolean changes = calls[WORD][i] == CHANGING[structure];
            System.arraycopy(have, 0, then, 0, MOST_CALLS + 1);
            contentSize[depth + 1] = size;
            if (structure <= SUM) {
                if (changes) {
                    then[0] = structure == SUM ? have[0] + value : value;
                }
                return changes && structure == CELL ? 0 : have[0];
            }
            if (changes) {
                then[size] = value;
                contentSize[depth + 1] = size + 1;
                return 0;
            }
            if (size == 0) {
                return -1;
            }
            contentSize[depth + 1] = size - 1;
            if (structure == STACK) {
                return have[size - 1];
            }
            System.arraycopy(have, 1, then, 0, size - 1);
            return have[0];
        }
    }
}
