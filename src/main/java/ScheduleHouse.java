import java.util.Arrays;

/** Reads a small text of threads, cells and locks, runs it choice by choice, and tries all that it can do. */
public final class ScheduleHouse {
    public static final int NONE = -1;

    private static final int MOST_BYTES = 3000;
    private static final int MOST_CHOICES = 400;
    private static final int MOST_STATES = 3000;
    private static final int WAYS = 2;

    private final Tokens tokens;
    private final Names names;
    private final Code code;
    private final Reader reader;
    private final Machine machine;
    private final Journal journal;
    private final Trial[] trials;
    private Explorer explorer;
    private History history;
    private boolean compiled;
    private boolean running;
    private int faultPlace;
    private int faultLine;

    public ScheduleHouse() {
        tokens = new Tokens();
        names = new Names(tokens);
        code = new Code();
        reader = new Reader(tokens, names, code);
        machine = new Machine(code);
        journal = new Journal(code);
        trials = new Trial[WAYS];
        faultPlace = NONE;
        faultLine = NONE;
    }

    public int feed(int n, long bytes) throws IllegalArgumentException {
        if (n < 1 || n > 8) {
            throw new IllegalArgumentException("n is not 1 .. 8");
        }
        if (tokens.length + n > MOST_BYTES) {
            throw new IllegalArgumentException("more than 3000 bytes");
        }
        for (int i = 0; i < n; i++) {
            tokens.addByte((int) (bytes >>> (8 * i)));
        }
        forgetAll();
        return tokens.length;
    }

    public int wipe() {
        int had = tokens.length;
        tokens.length = 0;
        forgetAll();
        return had;
    }

    public int compile() {
        forgetAll();
        tokens.cut();
        int fault = 0;
        int token = NONE;
        try {
            reader.readAll();
            fault = names.judge();
            token = names.faultToken;
        } catch (IllegalStateException refused) {
            fault = reader.faultNumber;
            token = reader.tokenHere();
        }
        compiled = fault == 0;
        faultPlace = compiled ? NONE : tokens.place[token];
        faultLine = compiled ? NONE : tokens.line[token];
        if (!compiled) {
            return -fault;
        }
        reader.link();
        return code.threads;
    }

    public int fault(int what) throws IndexOutOfBoundsException {
        if (what != 0 && what != 1) {
            throw new IndexOutOfBoundsException("no such what");
        }
        return what == 0 ? faultPlace : faultLine;
    }

    public int count(int what) throws IndexOutOfBoundsException {
        needWhat(what, 5);
        if (!compiled) {
            return 0;
        }
        switch (what) {
            case 0:
                return code.cells;
            case 1:
                return code.locks;
            case 2:
                return code.threads;
            case 3:
                return code.always;
            default:
                return code.finals;
        }
    }

    public int begin(int way) throws IllegalStateException, IllegalArgumentException {
        needCompiled();
        needWay(way);
        beginRun(way);
        return machine.listed;
    }

    public int choices() throws IllegalStateException {
        needRun();
        return machine.listed;
    }

    public int choice(int i, int what) throws IllegalStateException, IndexOutOfBoundsException {
        needRun();
        needIndex(i, machine.listed);
        needWhat(what, 5);
        int t = machine.listThread[i];
        int late = machine.listLate[i];
        switch (what) {
            case 0:
                return t;
            case 1:
                return late == NONE ? 0 : 1;
            case 2:
                return late == NONE ? machine.sortOf(t) : Code.WRITE;
            case 3:
                return late == NONE ? machine.objectOf(t) : machine.lateCell(t, late);
            default:
                return machine.listWoken[i];
        }
    }

    public int go(int i) throws IllegalStateException, IndexOutOfBoundsException {
        needRun();
        if (journal.done >= MOST_CHOICES) {
            throw new IllegalStateException("400 choices were done");
        }
        needIndex(i, machine.listed);
        doChoice(i);
        return machine.listed;
    }

    public int draw(int seed, int n) throws IllegalStateException, IllegalArgumentException {
        needRun();
        if (n < 0 || n > MOST_CHOICES) {
            throw new IllegalArgumentException("n is not 0 .. 400");
        }
        int next = seed;
        int drawn = 0;
        for (int k = 0; k < n && machine.listed > 0 && journal.done < MOST_CHOICES; k++) {
            next = next * 1103515245 + 12345;
            doChoice(((next >>> 16) & 32767) % machine.listed);
            drawn++;
        }
        return drawn;
    }

    public int again(int n) throws IllegalStateException, IllegalArgumentException {
        needRun();
        if (n < 0 || n > journal.done) {
            throw new IllegalArgumentException("n is not 0 .. how many were done");
        }
        beginRun(machine.way);
        // what was chosen stays in its row while it is done again, each at its own place
        for (int k = 0; k < n; k++) {
            doChoice(journal.chosen[k]);
        }
        return machine.listed;
    }

    public int run(int what) throws IllegalStateException, IndexOutOfBoundsException {
        needRun();
        needWhat(what, 8);
        switch (what) {
            case 0:
                return machine.way;
            case 1:
                return journal.done;
            case 2:
                return journal.acts;
            case 3:
                return machine.listed == 0 ? 1 : 0;
            case 4:
                return machine.isStuck() ? 1 : 0;
            case 5:
                return journal.races();
            case 6:
                return journal.calls;
            default:
                return machine.allLate();
        }
    }

    public int cell(int c) throws IllegalStateException, IndexOutOfBoundsException {
        needRun();
        needIndex(c, code.cells);
        return machine.row[c];
    }

    public int seen(int thread, int c) throws IllegalStateException, IndexOutOfBoundsException {
        needRun();
        needIndex(thread, code.threads);
        needIndex(c, code.cells);
        return machine.seenBy(thread, c);
    }

    public int lock(int l, int what) throws IllegalStateException, IndexOutOfBoundsException {
        needRun();
        needIndex(l, code.locks);
        needWhat(what, 3);
        switch (what) {
            case 0:
                return machine.holder(l);
            case 1:
                return machine.often(l);
            default:
                return Integer.bitCount(machine.waiters(l));
        }
    }

    public int thread(int t, int what) throws IllegalStateException, IndexOutOfBoundsException {
        needRun();
        needIndex(t, code.threads);
        needWhat(what, 5);
        switch (what) {
            case 0:
                return machine.get(t, Machine.STATUS);
            case 1:
                return machine.get(t, Machine.FAILURE);
            case 2:
                return machine.get(t, Machine.LATE);
            case 3:
                return machine.known(t);
            default:
                return machine.lineOf(t);
        }
    }

    public int local(int t, int i) throws IllegalStateException, IndexOutOfBoundsException {
        needRun();
        needIndex(t, code.threads);
        needIndex(i, machine.known(t));
        return machine.get(t, Machine.FIRST_LOCAL + i);
    }

    public int act(int a, int what) throws IllegalStateException, IndexOutOfBoundsException {
        needRun();
        needIndex(a, journal.acts);
        needWhat(what, 5);
        switch (what) {
            case 0:
                return journal.thread[a];
            case 1:
                return journal.sort[a];
            case 2:
                return journal.object[a];
            case 3:
                return journal.read[a];
            default:
                return journal.wrote[a];
        }
    }

    public boolean before(int a, int b) throws IllegalStateException, IndexOutOfBoundsException {
        needRun();
        needIndex(a, journal.acts);
        needIndex(b, journal.acts);
        return journal.isBefore(a, b);
    }

    public int race(int i, int which) throws IllegalStateException, IndexOutOfBoundsException {
        needRun();
        needIndex(i, journal.races());
        needWhat(which, 2);
        int later = journal.laterOfRace(i);
        return which == 1 ? later : journal.earlierOfRace(i, later);
    }

    public int linear(int structure) throws IllegalStateException, IllegalArgumentException {
        needRun();
        if (structure < 0 || structure > 3) {
            throw new IllegalArgumentException("no such structure");
        }
        if (journal.calls > History.MOST_CALLS) {
            return NONE;
        }
        if (history == null) {
            history = new History();
        }
        history.take(journal);
        int fewest = history.fewestThatFail(structure);
        return fewest == NONE ? 1 : -2 - fewest;
    }

    public int attempt(int way, int limit) throws IllegalStateException, IllegalArgumentException {
        needCompiled();
        needWay(way);
        if (limit < 1 || limit > MOST_STATES) {
            throw new IllegalArgumentException("limit is not 1 .. 3000");
        }
        if (explorer == null) {
            explorer = new Explorer(code);
        }
        if (trials[way] == null) {
            trials[way] = new Trial();
        }
        explorer.explore(way, limit, trials[way]);
        return trials[way].states;
    }

    public int tried(int way, int what) throws IllegalArgumentException, IndexOutOfBoundsException {
        needWay(way);
        needWhat(what, 6);
        if (!wasTried(way)) {
            return 0;
        }
        Trial trial = trials[way];
        switch (what) {
            case 0:
                return trial.states;
            case 1:
                return trial.partly ? 1 : 0;
            case 2:
                return trial.ends;
            case 3:
                return trial.outcomes;
            case 4:
                return trial.halted;
            default:
                return trial.choices;
        }
    }

    public int outcome(int way, int i, int c) throws IllegalArgumentException, IndexOutOfBoundsException {
        needWay(way);
        needIndex(i, wasTried(way) ? trials[way].outcomes : 0);
        needIndex(c, code.cells);
        return trials[way].valueOf(i, c);
    }

    public int finding(int way, int f) throws IllegalArgumentException {
        needWay(way);
        needFinding(f);
        int state = firstState(way, f);
        return state == NONE ? NONE : trials[way].depth[state];
    }

    public int show(int way, int f) throws IllegalArgumentException, IllegalStateException {
        needWay(way);
        needFinding(f);
        int state = firstState(way, f);
        if (state == NONE) {
            throw new IllegalStateException("no such finding");
        }
        int far = trials[way].depth[state];
        if (far > MOST_CHOICES) {
            throw new IllegalStateException("more than 400 choices lead to it");
        }
        trials[way].pathTo(state, journal.chosen);
        beginRun(way);
        for (int k = 0; k < far; k++) {
            doChoice(journal.chosen[k]);
        }
        return far;
    }

    public int common(int way, int c) throws IllegalArgumentException, IndexOutOfBoundsException {
        needWay(way);
        needIndex(c, compiled ? code.cells : 0);
        return wasTried(way) ? trials[way].commonLocks[c] : (1 << code.locks) - 1;
    }

    public int ring(int way) throws IllegalArgumentException {
        needWay(way);
        return wasTried(way) ? trials[way].shortestRing() : 0;
    }

    public int alike() {
        if (!wasTried(0) || !wasTried(1) || trials[0].partly || trials[1].partly) {
            return NONE;
        }
        return trials[0].sameOutcomes(trials[1], code.cells) ? 1 : 0;
    }

    private void forgetAll() {
        compiled = false;
        running = false;
        for (int way = 0; way < WAYS; way++) {
            if (trials[way] != null) {
                trials[way].states = 0;
            }
        }
    }

    private void beginRun(int way) {
        machine.reset(way);
        machine.listChoices();
        journal.clear();
        running = true;
    }

    private void doChoice(int i) {
        if (i < 0 || i >= machine.listed || journal.done >= MOST_CHOICES) {
            return;
        }
        machine.perform(i);
        journal.note(i, machine.deed);
        machine.listChoices();
    }

    private boolean wasTried(int way) {
        return trials[way] != null && trials[way].states > 0;
    }

    private int firstState(int way, int f) {
        return wasTried(way) ? trials[way].firstOf[f] : NONE;
    }

    private void needCompiled() {
        if (!compiled) {
            throw new IllegalStateException("nothing is compiled");
        }
    }

    private void needRun() {
        if (!running) {
            throw new IllegalStateException("there is no run");
        }
    }

    private static void needWay(int way) {
        if (way < 0 || way >= WAYS) {
            throw new IllegalArgumentException("no such way");
        }
    }

    private static void needFinding(int f) {
        if (f < 0 || f >= Trial.FINDINGS) {
            throw new IllegalArgumentException("no such finding");
        }
    }

    private static void needIndex(int i, int many) {
        if (i < 0 || i >= many) {
            throw new IndexOutOfBoundsException("there is none such");
        }
    }

    private static void needWhat(int what, int many) {
        if (what < 0 || what >= many) {
            throw new IndexOutOfBoundsException("no such what");
        }
    }

    /** The bytes of the text, cut into tokens. */
    private static final class Tokens {
        static final int MOST = 700;

        static final int END_OF_TEXT = 0;
        static final int BAD = 1;
        static final int NAME = 2;
        static final int WHOLE = 3;

        static final int SET = 10;
        static final int EQUAL = 11;
        static final int UNEQUAL = 12;
        static final int LESS = 13;
        static final int AT_MOST = 14;
        static final int MORE = 15;
        static final int AT_LEAST = 16;
        static final int PLUS = 17;
        static final int MINUS = 18;
        static final int TIMES = 19;
        static final int OVER = 20;
        static final int OPEN = 21;
        static final int CLOSE = 22;
        static final int OPEN_BLOCK = 23;
        static final int CLOSE_BLOCK = 24;
        static final int OPEN_ROW = 25;
        static final int CLOSE_ROW = 26;
        static final int SEMICOLON = 27;
        static final int COMMA = 28;

        static final int FIRST_WORD = 40;
        static final int ADD = 40;
        static final int ALWAYS = 41;
        static final int AND = 42;
        static final int ASSERT = 43;
        static final int BACK = 44;
        static final int CALL = 45;
        static final int CAS = 46;
        static final int CELL = 47;
        static final int ELSE = 48;
        static final int END = 49;
        static final int FENCE = 50;
        static final int FINALLY = 51;
        static final int GIVE = 52;
        static final int IDLE = 53;
        static final int IF = 54;
        static final int JOIN = 55;
        static final int LET = 56;
        static final int LOCK = 57;
        static final int MOD = 58;
        static final int NOT = 59;
        static final int OR = 60;
        static final int PAUSE = 61;
        static final int SELF = 62;
        static final int START = 63;
        static final int SURE = 64;
        static final int SWAP = 65;
        static final int TAKE = 66;
        static final int THREAD = 67;
        static final int WAIT = 68;
        static final int WAKE = 69;
        static final int WAKEALL = 70;
        static final int WHILE = 71;

        /** The words in the order of their numbers, each in a field of WIDTH. */
        private static final String WORDS = "add    always and    assert back   call   cas    cell   else   end    fence  finallygive   idle   if     join   let    lock   mod    not    or     pause  self   start  sure   swap   take   thread wait   wake   wakeallwhile  ";
        private static final int WIDTH = 7;
        private static final int MANY_WORDS = 32;
        private static final int LONGEST_NAME = 12;
        private static final int LONGEST_WHOLE = 9;

        final byte[] text;
        int length;
        final int[] sort;
        final int[] place;
        final int[] line;
        final int[] size;
        /** Of a whole what it says, of a name a number that is the same for the same name. */
        final int[] value;
        int many;
        private int at;
        private int lineHere;

        Tokens() {
            text = new byte[MOST_BYTES];
            sort = new int[MOST + 2];
            place = new int[MOST + 2];
            line = new int[MOST + 2];
            size = new int[MOST + 2];
            value = new int[MOST + 2];
        }

        void addByte(int b) {
            if (length < MOST_BYTES) {
                text[length] = (byte) b;
                length++;
            }
        }

        /** Cuts up to the first token too many, or the first that is none: nothing behind these is ever asked for. */
        void cut() {
            at = 0;
            lineHere = 1;
            many = 0;
            boolean good = true;
            for (int k = 0; k <= MOST && good; k++) {
                skipBlanks();
                if (at >= length) {
                    break;
                }
                place[many] = at;
                line[many] = lineHere;
                sort[many] = cutOne();
                good = sort[many] != BAD;
                many++;
            }
            sort[many] = END_OF_TEXT;
            place[many] = length;
            line[many] = lineHere;
        }

        boolean sameName(int a, int b) {
            if (value[a] != value[b] || size[a] != size[b]) {
                return false;
            }
            for (int i = 0; i < size[a]; i++) {
                if (text[place[a] + i] != text[place[b] + i]) {
                    return false;
                }
            }
            return true;
        }

        private int byteAt(int i) {
            return i < length ? text[i] & 255 : 0;
        }

        private void skipBlanks() {
            boolean remark = false;
            for (; at < length; at++) {
                int b = byteAt(at);
                if (b == '\n') {
                    lineHere++;
                    remark = false;
                } else if (b == '/' && byteAt(at + 1) == '/') {
                    remark = true;
                } else if (!remark && b != ' ' && b != '\t' && b != '\r') {
                    return;
                }
            }
        }

        private int cutOne() {
            int first = at;
            int b = byteAt(at);
            if (isLetter(b)) {
                passLettersAndDigits();
                return nameOrWord(first);
            }
            if (isDigit(b)) {
                passLettersAndDigits();
                return wholeOrBad(first);
            }
            return sign(b, byteAt(at + 1));
        }

        private void passLettersAndDigits() {
            int first = at;
            for (; at < length; at++) {
                int b = byteAt(at);
                if (!isLetter(b) && !isDigit(b)) {
                    break;
                }
            }
            size[many] = at - first;
        }

        private int nameOrWord(int first) {
            if (size[many] > LONGEST_NAME) {
                return BAD;
            }
            for (int w = 0; w < MANY_WORDS; w++) {
                if (isWord(w, first, size[many])) {
                    return FIRST_WORD + w;
                }
            }
            int mixed = 0;
            for (int i = 0; i < size[many]; i++) {
                mixed = mixed * 31 + byteAt(first + i);
            }
            value[many] = mixed;
            return NAME;
        }

        private boolean isWord(int w, int first, int letters) {
            if (letters > WIDTH) {
                return false;
            }
            for (int i = 0; i < WIDTH; i++) {
                int b = i < letters ? byteAt(first + i) : ' ';
                if (WORDS.charAt(w * WIDTH + i) != b) {
                    return false;
                }
            }
            return true;
        }

        private int wholeOrBad(int first) {
            if (size[many] > LONGEST_WHOLE) {
                return BAD;
            }
            int whole = 0;
            for (int i = 0; i < size[many]; i++) {
                int b = byteAt(first + i);
                if (!isDigit(b)) {
                    return BAD;
                }
                whole = whole * 10 + (b - '0');
            }
            value[many] = whole;
            return WHOLE;
        }

        private int sign(int b, int next) {
            boolean twofold = next == '=' && (b == '=' || b == '!' || b == '<' || b == '>');
            size[many] = twofold ? 2 : 1;
            at += size[many];
            switch (b) {
                case '=':
                    return twofold ? EQUAL : SET;
                case '!':
                    return twofold ? UNEQUAL : BAD;
                case '<':
                    return twofold ? AT_MOST : LESS;
                case '>':
                    return twofold ? AT_LEAST : MORE;
                default:
                    return singleSign(b);
            }
        }

        private static int singleSign(int b) {
            switch (b) {
                case '+':
                    return PLUS;
                case '-':
                    return MINUS;
                case '*':
                    return TIMES;
                case '/':
                    return OVER;
                case '(':
                    return OPEN;
                case ')':
                    return CLOSE;
                case '{':
                    return OPEN_BLOCK;
                case '}':
                    return CLOSE_BLOCK;
                case '[':
                    return OPEN_ROW;
                case ']':
                    return CLOSE_ROW;
                case ';':
                    return SEMICOLON;
                case ',':
                    return COMMA;
                default:
                    return BAD;
            }
        }

        private static boolean isLetter(int b) {
            return b >= 'a' && b <= 'z' || b >= 'A' && b <= 'Z';
        }

        private static boolean isDigit(int b) {
            return b >= '0' && b <= '9';
        }
    }

    /** What the text tells, and what each of its names means there. */
    private static final class Names {
        static final int MOST_CELLS = 24;
        static final int MOST_LOCKS = 6;
        static final int MOST_THREADS = 6;
        static final int MOST_IN_ROW = 8;
        private static final int MOST_KIND = 3;

        /** What a token is used for; the reader says it, and all are judged when the whole text was read. */
        static final int NOTHING = 0;
        static final int TOLD = 1;
        static final int TOLD_TWICE = 2;
        static final int UNKNOWN_LOCAL = 3;
        static final int LOCK = 4;
        static final int THREAD = 5;
        static final int CELL = 6;
        static final int ROW = 7;
        static final int CELL_TO_CELL = 8;
        static final int ROW_TO_CELL = 9;
        static final int EXCHANGE_TO_CELL = 10;
        static final int ROW_SIZE = 11;
        static final int CLAIMED_PLACE = 12;
        static final int KIND = 13;

        private final Tokens tokens;
        final int[] use;
        /** Of a name the number of its lock or thread, or which of the told cells and rows it is. */
        final int[] meaning;
        private final int[] cellName;
        final int[] cellFirst;
        /** How many cells a row has; 0 for a cell that is no row. */
        final int[] cellRow;
        private int cellDefs;
        private final int[] lockName;
        private int locks;
        private final int[] threadName;
        private int threads;
        int faultToken;

        Names(Tokens tokens) {
            this.tokens = tokens;
            use = new int[Tokens.MOST + 2];
            meaning = new int[Tokens.MOST + 2];
            cellName = new int[MOST_CELLS];
            cellFirst = new int[MOST_CELLS];
            cellRow = new int[MOST_CELLS];
            lockName = new int[MOST_LOCKS];
            threadName = new int[MOST_THREADS];
        }

        void clear() {
            cellDefs = 0;
            locks = 0;
            threads = 0;
            Arrays.fill(use, NOTHING);
            Arrays.fill(meaning, NONE);
        }

        void tellCell(int token, int first, int row) {
            if (cellDefs < MOST_CELLS) {
                cellName[cellDefs] = token;
                cellFirst[cellDefs] = first;
                cellRow[cellDefs] = row;
                cellDefs++;
            }
        }

        void tellLock(int token) {
            if (locks < MOST_LOCKS) {
                lockName[locks] = token;
                locks++;
            }
        }

        void tellThread(int token) {
            if (threads < MOST_THREADS) {
                threadName[threads] = token;
                threads++;
            }
        }

        static boolean isRowSize(int whole) {
            return whole >= 1 && whole <= MOST_IN_ROW;
        }

        /** The number of the first fault that names or wholes have; 0 without one. */
        int judge() {
            for (int i = 0; i < tokens.many; i++) {
                int fault = use[i] == NOTHING ? 0 : faultOf(i);
                if (fault != 0) {
                    faultToken = i;
                    return fault;
                }
            }
            return 0;
        }

        private int faultOf(int i) {
            switch (use[i]) {
                case TOLD:
                    return isToldBefore(i) ? 4 : 0;
                case TOLD_TWICE:
                    return 4;
                case UNKNOWN_LOCAL:
                    return 5;
                case LOCK:
                    meaning[i] = numberOf(lockName, locks, i);
                    return meaning[i] == NONE ? 5 : 0;
                case THREAD:
                    meaning[i] = numberOf(threadName, threads, i);
                    return meaning[i] == NONE ? 5 : 0;
                case EXCHANGE_TO_CELL:
                    return 7;
                case ROW_SIZE:
                    return isRowSize(tokens.value[i]) ? 0 : 6;
                case KIND:
                    return tokens.value[i] > MOST_KIND ? 6 : 0;
                case CLAIMED_PLACE:
                    // the row's name stands two tokens before, and was found to be one
                    return i >= 2 && tokens.value[i] < cellRow[meaning[i - 2]] ? 0 : 6;
                default:
                    return faultOfCell(i);
            }
        }

        private int faultOfCell(int i) {
            meaning[i] = cellOf(i, use[i] == ROW || use[i] == ROW_TO_CELL);
            if (meaning[i] == NONE) {
                return 5;
            }
            return use[i] == CELL || use[i] == ROW ? 0 : 7;
        }

        private boolean isToldBefore(int token) {
            return isAmong(cellName, cellDefs, token) || isAmong(lockName, locks, token)
                    || isAmong(threadName, threads, token);
        }

        private boolean isAmong(int[] told, int many, int token) {
            for (int i = 0; i < many; i++) {
                if (told[i] < token && tokens.sameName(told[i], token)) {
                    return true;
                }
            }
            return false;
        }

        private int cellOf(int token, boolean asRow) {
            for (int i = 0; i < cellDefs; i++) {
                if ((cellRow[i] > 0) == asRow && tokens.sameName(cellName[i], token)) {
                    return i;
                }
            }
            return NONE;
        }

        private int numberOf(int[] told, int many, int token) {
            for (int i = 0; i < many; i++) {
                if (tokens.sameName(told[i], token)) {
                    return i;
                }
            }
            return NONE;
        }
    }

    /** What was compiled: steps of the threads, and sums (the document's E) with operands before their operators. */
    private static final class Code {
        static final int READ = 0;
        static final int WRITE = 1;
        static final int SWAP = 2;
        static final int ADD = 3;
        static final int CAS = 4;
        static final int TAKE = 5;
        static final int GIVE = 6;
        static final int WAIT = 7;
        static final int WAKE = 8;
        static final int START = 9;
        static final int JOIN = 10;
        static final int FENCE = 11;
        static final int PAUSE = 12;
        static final int CALL = 13;
        static final int BACK = 14;
        static final int RETAKE = 15;
        /** From here on steps are a thread's own, and counted; from JUMP on they are no S of the text. */
        static final int SET = 16;
        static final int TEST = 17;
        static final int ASSERT = 18;
        static final int QUIT = 19;
        static final int JUMP = 20;
        static final int STOP = 21;

        /** Operators of sums are their tokens; these stand for operands, and for what has one operand. */
        static final int SUM_END = 0;
        static final int NUMBER = 1;
        static final int VALUE = 2;
        static final int SELF = 3;
        static final int NEGATE = 4;
        static final int NOT = 5;
        /** The value of a cell, in an always or finally, as long as its name has no meaning yet. */
        static final int CLAIMED = 6;

        static final int MOST_CLAIMS = 4;
        private static final int MOST_STEPS = 400;
        private static final int MOST_SUM_PARTS = 800;
        private static final int DEEPEST = 40;

        final Steps steps;
        final int[] sumPart;
        final int[] sumArg;
        int sumParts;
        private final int[] stack;
        /** Whether the sum that was worked last divided by 0. */
        boolean broke;
        int cells;
        final int[] cellStart;
        final boolean[] cellSure;
        int locks;
        int threads;
        final int[] threadStart;
        final boolean[] threadIdle;
        int mostLocals;
        int always;
        final int[] alwaysSum;
        int finals;
        final int[] finalSum;

        Code() {
            steps = new Steps(MOST_STEPS);
            sumPart = new int[MOST_SUM_PARTS];
            sumArg = new int[MOST_SUM_PARTS];
            stack = new int[DEEPEST];
            cellStart = new int[Names.MOST_CELLS];
            cellSure = new boolean[Names.MOST_CELLS];
            threadStart = new int[Names.MOST_THREADS];
            threadIdle = new boolean[Names.MOST_THREADS];
            alwaysSum = new int[MOST_CLAIMS];
            finalSum = new int[MOST_CLAIMS];
        }

        void clear() {
            steps.many = 0;
            sumParts = 0;
            cells = 0;
            locks = 0;
            threads = 0;
            mostLocals = 0;
            always = 0;
            finals = 0;
        }

        void addCells(int many, int start, boolean sure) {
            for (int k = 0; k < many && cells < Names.MOST_CELLS; k++) {
                cellStart[cells] = start;
                cellSure[cells] = sure;
                cells++;
            }
        }

        void addPart(int part, int arg) {
            if (sumParts < MOST_SUM_PARTS) {
                sumPart[sumParts] = part;
                sumArg[sumParts] = arg;
                sumParts++;
            }
        }

        /** Works a sum; its names are values[base] and those behind it. */
        int work(int start, int[] values, int base, int self) {
            broke = false;
            int top = 0;
            for (int i = start; i >= 0 && i < sumParts && !broke && sumPart[i] != SUM_END; i++) {
                int part = sumPart[i];
                if (part == NUMBER || part == VALUE || part == SELF) {
                    if (top < DEEPEST) {
                        stack[top] = part == NUMBER ? sumArg[i] : part == SELF ? self : values[base + sumArg[i]];
                        top++;
                    }
                } else if (part == NEGATE || part == NOT) {
                    if (top >= 1) {
                        int v = stack[top - 1];
                        stack[top - 1] = part == NEGATE ? -v : v == 0 ? 1 : 0;
                    }
                } else if (top >= 2) {
                    top--;
                    stack[top - 1] = operate(part, stack[top - 1], stack[top]);
                }
            }
            return stack[0];
        }

        private int operate(int operator, int a, int b) {
            switch (operator) {
                case Tokens.OR:
                    return a != 0 || b != 0 ? 1 : 0;
                case Tokens.AND:
                    return a != 0 && b != 0 ? 1 : 0;
                case Tokens.EQUAL:
                    return a == b ? 1 : 0;
                case Tokens.UNEQUAL:
                    return a != b ? 1 : 0;
                case Tokens.LESS:
                    return a < b ? 1 : 0;
                case Tokens.AT_MOST:
                    return a <= b ? 1 : 0;
                case Tokens.MORE:
                    return a > b ? 1 : 0;
                case Tokens.AT_LEAST:
                    return a >= b ? 1 : 0;
                case Tokens.PLUS:
                    return a + b;
                case Tokens.MINUS:
                    return a - b;
                case Tokens.TIMES:
                    return a * b;
                default:
                    break;
            }
            if (b == 0) {
                broke = true;
                return 0;
            }
            return operator == Tokens.OVER ? a / b : a % b;
        }
    }

    /** The steps of all threads, one behind the other. */
    private static final class Steps {
        final int[] op;
        final int[] line;
        /** How many locals are known at the step. */
        final int[] known;
        /** The local that is set, the step to which it jumps, or of WAKE whether it wakes all. */
        final int[] target;
        /** The first cell, the lock, the thread or the kind. */
        final int[] object;
        /** How many cells the row has, if there is a [ ]. */
        final int[] row;
        final int[] index;
        final int[] first;
        final int[] second;
        int many;

        Steps(int most) {
            op = new int[most];
            line = new int[most];
            known = new int[most];
            target = new int[most];
            object = new int[most];
            row = new int[most];
            index = new int[most];
            first = new int[most];
            second = new int[most];
        }

        int add(int newOp, int newLine, int newKnown) {
            // the last place is used again when all are full, which 700 tokens can not bring about
            int i = many < op.length ? many : op.length - 1;
            op[i] = newOp;
            line[i] = newLine;
            known[i] = newKnown;
            target[i] = NONE;
            object[i] = NONE;
            row[i] = 0;
            index[i] = NONE;
            first[i] = NONE;
            second[i] = NONE;
            many = i + 1;
            return i;
        }
    }

    /** Reads the form of the text, and writes down its steps and sums, with names still as their tokens. */
    private static final class Reader {
        private static final int DEEPEST = 16;
        private static final int MOST_LOCALS = 8;
        private static final int MOST_OPEN = DEEPEST + 4;

        private static final int THREAD_BLOCK = 0;
        private static final int WHILE_BLOCK = 1;
        private static final int LOCK_BLOCK = 2;
        private static final int IF_BLOCK = 3;
        private static final int ELSE_BLOCK = 4;
        /** No block, but the place of an if that stands right behind else. */
        private static final int ELSE_IF = 5;

        private static final int PREFIX_STRENGTH = 6;

        private final Tokens tokens;
        private final Names names;
        private final Code code;
        private final Steps steps;
        private int next;
        private boolean inThread;
        int faultNumber;
        private int lets;
        /** The tokens of the locals that are known here, as they were told. */
        private final int[] knownName;
        private int known;
        /** The statements that are open here, one within the other: how, their step, and what was known before. */
        private final int[] openKind;
        private final int[] openStep;
        private final int[] openKnown;
        private int open;
        /** The operators of a sum that wait for the end of their right side, and how deep that side is nested. */
        private final int[] heldPart;
        private final int[] heldStrength;
        private final int[] heldDepth;
        private int held;

        Reader(Tokens tokens, Names names, Code code) {
            this.tokens = tokens;
            this.names = names;
            this.code = code;
            steps = code.steps;
            knownName = new int[MOST_LOCALS];
            openKind = new int[MOST_OPEN];
            openStep = new int[MOST_OPEN];
            openKnown = new int[MOST_OPEN];
            heldPart = new int[MOST_OPEN];
            heldStrength = new int[MOST_OPEN];
            heldDepth = new int[MOST_OPEN];
        }

        /** Where reading has come to; if it was refused, the token that has the fault. */
        int tokenHere() {
            return next;
        }

        /** Reads all; IllegalStateException: there is a fault, and reading stopped at it. */
        void readAll() {
            names.clear();
            code.clear();
            next = 0;
            faultNumber = 0;
            inThread = false;
            for (int k = 0; k <= Tokens.MOST && (inThread || sort() != Tokens.END_OF_TEXT); k++) {
                if (!inThread) {
                    definition();
                } else if (sort() == Tokens.CLOSE_BLOCK) {
                    closeBlock();
                } else {
                    statement();
                }
            }
        }

        private void definition() {
            switch (sort()) {
                case Tokens.SURE:
                case Tokens.CELL:
                    cellDefinition();
                    break;
                case Tokens.LOCK:
                    lockDefinition();
                    break;
                case Tokens.IDLE:
                case Tokens.THREAD:
                    beginThread();
                    break;
                case Tokens.ALWAYS:
                case Tokens.FINALLY:
                    claim();
                    break;
                default:
                    refuse(2);
            }
        }

        private int sort() {
            return tokens.sort[next];
        }

        private int sortBehind() {
            return tokens.sort[next + 1];
        }

        private void refuse(int number) {
            // what is no token can have no right form either: of one place the least number counts
            faultNumber = tokens.sort[next] == Tokens.BAD ? 1 : number;
            throw new IllegalStateException("a fault of the text");
        }

        /** Passes a token whose form is right: only then is it known that it is just one too many. */
        private void pass() {
            if (next >= Tokens.MOST) {
                refuse(3);
            }
            next++;
        }

        private void need(int wanted) {
            if (sort() != wanted || next >= Tokens.MOST) {
                refuse(sort() != wanted ? 2 : 3);
            }
            next++;
        }

        /** Passes a name or whole, and says what it is used for. */
        private int needFor(int wanted, int use) {
            if (sort() != wanted || next >= Tokens.MOST) {
                refuse(sort() != wanted ? 2 : 3);
            }
            names.use[next] = use;
            next++;
            return next - 1;
        }

        private void cellDefinition() {
            boolean sure = sort() == Tokens.SURE;
            if (sure) {
                pass();
            }
            need(Tokens.CELL);
            int row = sort() == Tokens.NAME ? rowAhead() : 0;
            int many = Math.max(row, 1);
            if (sort() == Tokens.NAME && code.cells + many > Names.MOST_CELLS) {
                refuse(3);
            }
            int name = needFor(Tokens.NAME, Names.TOLD);
            if (row > 0) {
                pass();
                needFor(Tokens.WHOLE, Names.ROW_SIZE);
                need(Tokens.CLOSE_ROW);
            }
            int start = startValue();
            need(Tokens.SEMICOLON);
            names.tellCell(name, code.cells, row);
            code.addCells(many, start, sure);
        }

        /** How many cells a row has whose name is the next token; 0 if no [ stands behind it. */
        private int rowAhead() {
            if (sortBehind() != Tokens.OPEN_ROW) {
                return 0;
            }
            int whole = next + 2;
            if (whole > Tokens.MOST || tokens.sort[whole] != Tokens.WHOLE) {
                return 1;
            }
            return Names.isRowSize(tokens.value[whole]) ? tokens.value[whole] : 1;
        }

        private int startValue() {
            if (sort() != Tokens.SET) {
                return 0;
            }
            pass();
            boolean minus = sort() == Tokens.MINUS;
            if (minus) {
                pass();
            }
            int whole = needFor(Tokens.WHOLE, Names.NOTHING);
            return minus ? -tokens.value[whole] : tokens.value[whole];
        }

        private void lockDefinition() {
            if (code.locks >= Names.MOST_LOCKS) {
                refuse(3);
            }
            pass();
            names.tellLock(needFor(Tokens.NAME, Names.TOLD));
            need(Tokens.SEMICOLON);
            code.locks++;
        }

        private void beginThread() {
            int t = code.threads;
            if (t >= Names.MOST_THREADS) {
                refuse(3);
            }
            boolean idle = sort() == Tokens.IDLE;
            if (idle) {
                pass();
            }
            need(Tokens.THREAD);
            names.tellThread(needFor(Tokens.NAME, Names.TOLD));
            code.threadIdle[t] = idle;
            code.threadStart[t] = steps.many;
            code.threads++;
            lets = 0;
            known = 0;
            open = 0;
            inThread = true;
            openBlock(THREAD_BLOCK, NONE);
        }

        private void endThread() {
            steps.add(Code.STOP, 0, 0);
            inThread = false;
        }

        private void claim() {
            boolean always = sort() == Tokens.ALWAYS;
            int many = always ? code.always : code.finals;
            if (many >= Code.MOST_CLAIMS) {
                refuse(3);
            }
            pass();
            int sum = sum(1);
            need(Tokens.SEMICOLON);
            if (always) {
                code.alwaysSum[many] = sum;
                code.always++;
            } else {
                code.finalSum[many] = sum;
                code.finals++;
            }
        }

        private void enter(int kind, int step) {
            if (open < MOST_OPEN) {
                openKind[open] = kind;
                openStep[open] = step;
                openKnown[open] = known;
                open++;
            }
        }

        private void openBlock(int kind, int step) {
            need(Tokens.OPEN_BLOCK);
            enter(kind, step);
        }

        private void closeBlock() {
            need(Tokens.CLOSE_BLOCK);
            open--;
            known = openKnown[open];
            int step = openStep[open];
            switch (openKind[open]) {
                case WHILE_BLOCK:
                    steps.target[steps.add(Code.JUMP, steps.line[step], known)] = step;
                    steps.target[step] = steps.many;
                    break;
                case LOCK_BLOCK:
                    steps.object[steps.add(Code.GIVE, steps.line[step], known)] = steps.object[step];
                    break;
                case IF_BLOCK:
                    if (sort() == Tokens.ELSE) {
                        openElse(step);
                    } else {
                        endIf(step);
                    }
                    break;
                case ELSE_BLOCK:
                    endIf(step);
                    break;
                default:
                    endThread();
            }
        }

        private void openElse(int test) {
            int jump = steps.add(Code.JUMP, steps.line[test], known);
            steps.target[test] = steps.many;
            pass();
            if (sort() == Tokens.IF) {
                enter(ELSE_IF, jump);
            } else {
                openBlock(ELSE_BLOCK, jump);
            }
        }

        /** An if's end is the end of each if, too, in whose else it stands. */
        private void endIf(int lastStep) {
            steps.target[lastStep] = steps.many;
            for (int k = 0; k < MOST_OPEN && open > 0 && openKind[open - 1] == ELSE_IF; k++) {
                open--;
                steps.target[openStep[open]] = steps.many;
            }
        }

        private void testStatement(int kind) {
            int line = tokens.line[next];
            pass();
            int sum = sum(open + 1);
            int test = steps.add(Code.TEST, line, known);
            steps.first[test] = sum;
            openBlock(kind, test);
        }

        private void statement() {
            int line = tokens.line[next];
            int op = opOf(sort());
            if (op == NONE || open > DEEPEST) {
                refuse(op == NONE ? 2 : 3);
            }
            switch (sort()) {
                case Tokens.LET:
                    int name = newLocal();
                    source(line, known, NONE);
                    need(Tokens.SEMICOLON);
                    makeKnown(name);
                    break;
                case Tokens.NAME:
                    if (sortBehind() == Tokens.OPEN_ROW) {
                        rowStatement(line);
                    } else {
                        int target = setTarget();
                        source(line, names.meaning[target], target);
                    }
                    need(Tokens.SEMICOLON);
                    break;
                case Tokens.IF:
                case Tokens.WHILE:
                    testStatement(sort() == Tokens.IF ? IF_BLOCK : WHILE_BLOCK);
                    break;
                case Tokens.LOCK:
                    pass();
                    openBlock(LOCK_BLOCK, nameStep(op, line));
                    break;
                default:
                    plainStatement(op, line);
            }
        }

        /** What a statement that begins with a token does, or does at first; NONE if none begins with it. */
        private static int opOf(int sort) {
            switch (sort) {
                case Tokens.LET:
                case Tokens.NAME:
                    return Code.SET;
                case Tokens.IF:
                case Tokens.WHILE:
                    return Code.TEST;
                case Tokens.LOCK:
                case Tokens.TAKE:
                    return Code.TAKE;
                case Tokens.GIVE:
                    return Code.GIVE;
                case Tokens.WAIT:
                    return Code.WAIT;
                case Tokens.WAKE:
                case Tokens.WAKEALL:
                    return Code.WAKE;
                case Tokens.START:
                    return Code.START;
                case Tokens.JOIN:
                    return Code.JOIN;
                case Tokens.FENCE:
                    return Code.FENCE;
                case Tokens.PAUSE:
                    return Code.PAUSE;
                case Tokens.CALL:
                    return Code.CALL;
                case Tokens.BACK:
                    return Code.BACK;
                case Tokens.ASSERT:
                    return Code.ASSERT;
                case Tokens.END:
                    return Code.QUIT;
                default:
                    return NONE;
            }
        }

        private int newLocal() {
            pass();
            if (sort() == Tokens.NAME && lets >= MOST_LOCALS) {
                refuse(3);
            }
            int name = needFor(Tokens.NAME, Names.NOTHING);
            lets++;
            if (knownFrom(openKnown[open - 1], name) != NONE) {
                names.use[name] = Names.TOLD_TWICE;
            }
            need(Tokens.SET);
            return name;
        }

        private void makeKnown(int name) {
            if (known < MOST_LOCALS) {
                knownName[known] = name;
                known++;
            }
            code.mostLocals = Math.max(code.mostLocals, known);
        }

        /** The local, told last, of those from first on, that has a token's name. */
        private int knownFrom(int first, int token) {
            for (int i = known - 1; i >= first; i--) {
                if (tokens.sameName(knownName[i], token)) {
                    return i;
                }
            }
            return NONE;
        }

        /** Passes the name before = ; its meaning is a local, or NONE for a cell. */
        private int setTarget() {
            int target = needFor(Tokens.NAME, Names.NOTHING);
            names.meaning[target] = knownFrom(0, target);
            if (names.meaning[target] == NONE) {
                names.use[target] = Names.CELL;
            }
            need(Tokens.SET);
            return target;
        }

        private void rowStatement(int line) {
            int cell = needFor(Tokens.NAME, Names.ROW);
            need(Tokens.OPEN_ROW);
            int index = sum(open + 1);
            need(Tokens.CLOSE_ROW);
            need(Tokens.SET);
            int sum = sum(open + 1);
            int step = steps.add(Code.WRITE, line, known);
            steps.object[step] = cell;
            steps.index[step] = index;
            steps.first[step] = sum;
        }

        /** What stands behind = : it goes to a local or, if that is NONE, to the cell that a token names. */
        private void source(int line, int local, int cell) {
            int depth = open + 1;
            int op = sourceOp();
            int place = cell;
            int index = NONE;
            int second = NONE;
            if (op == Code.SWAP || op == Code.ADD || op == Code.CAS) {
                names.use[next] = local == NONE ? Names.EXCHANGE_TO_CELL : Names.NOTHING;
                pass();
            }
            if (op != Code.SET) {
                boolean asRow = sortBehind() == Tokens.OPEN_ROW;
                if (op == Code.READ && !asRow && depth > DEEPEST) {
                    refuse(3);
                }
                place = needFor(Tokens.NAME, useOfCell(asRow, op == Code.READ && local == NONE));
                if (asRow) {
                    pass();
                    index = sum(depth);
                    need(Tokens.CLOSE_ROW);
                }
                if (op != Code.READ) {
                    need(Tokens.COMMA);
                }
            }
            int first = op == Code.READ ? NONE : sum(depth);
            if (op == Code.CAS) {
                need(Tokens.COMMA);
                second = sum(depth);
            }
            int step = steps.add(op == Code.SET && local == NONE ? Code.WRITE : op, line, known);
            steps.target[step] = local;
            steps.object[step] = place;
            steps.index[step] = index;
            steps.first[step] = first;
            steps.second[step] = second;
        }

        /** What the next tokens begin: swap, add, cas, the reading of a cell, or a sum that is set. */
        private int sourceOp() {
            switch (sort()) {
                case Tokens.SWAP:
                    return Code.SWAP;
                case Tokens.ADD:
                    return Code.ADD;
                case Tokens.CAS:
                    return Code.CAS;
                case Tokens.NAME:
                    boolean alone = sortBehind() == Tokens.SEMICOLON && knownFrom(0, next) == NONE;
                    return alone || sortBehind() == Tokens.OPEN_ROW ? Code.READ : Code.SET;
                default:
                    return Code.SET;
            }
        }

        private static int useOfCell(boolean asRow, boolean toCell) {
            if (asRow) {
                return toCell ? Names.ROW_TO_CELL : Names.ROW;
            }
            return toCell ? Names.CELL_TO_CELL : Names.CELL;
        }

        /** The statements that have no block and set nothing. */
        private void plainStatement(int op, int line) {
            boolean all = sort() == Tokens.WAKEALL;
            pass();
            int step = NONE;
            if (op >= Code.TAKE && op <= Code.JOIN) {
                step = nameStep(op, line);
                steps.target[step] = all ? 1 : 0;
            } else {
                int kind = NONE;
                if (op == Code.CALL) {
                    kind = tokens.value[needFor(Tokens.WHOLE, Names.KIND)];
                    need(Tokens.COMMA);
                }
                boolean withSum = op == Code.CALL || op == Code.BACK || op == Code.ASSERT;
                int sum = withSum ? sum(open + 1) : NONE;
                step = steps.add(op, line, known);
                steps.object[step] = kind;
                steps.first[step] = sum;
            }
            need(Tokens.SEMICOLON);
        }

        /** Passes the name of a lock or thread, and adds what is done with it. */
        private int nameStep(int op, int line) {
            int name = needFor(Tokens.NAME, op == Code.START || op == Code.JOIN ? Names.THREAD : Names.LOCK);
            int step = steps.add(op, line, known);
            steps.object[step] = name;
            return step;
        }

        /** Reads a sum, and answers where its parts begin. */
        private int sum(int depth) {
            int start = code.sumParts;
            int parentheses = 0;
            held = 0;
            hold(Code.SUM_END, 0, depth);
            for (int k = 0; k <= Tokens.MOST; k++) {
                parentheses += openOperand();
                if (sort() == Tokens.NAME && !inThread) {
                    claimedCell();
                } else {
                    readOperand();
                }
                for (; parentheses > 0 && sort() == Tokens.CLOSE; parentheses--) {
                    pass();
                    release(1);
                    held--;
                }
                int strength = strengthOf(sort());
                if (strength == 0) {
                    break;
                }
                release(strength);
                hold(sort(), strength, depthHere() + 1);
                pass();
            }
            if (parentheses > 0) {
                refuse(2);
            }
            release(1);
            code.addPart(Code.SUM_END, 0);
            return start;
        }

        private int depthHere() {
            return held > 0 ? heldDepth[held - 1] : 0;
        }

        private void hold(int part, int strength, int depth) {
            if (held < MOST_OPEN) {
                heldPart[held] = part;
                heldStrength[held] = strength;
                heldDepth[held] = depth;
                held++;
            }
        }

        /** Writes down the operators held last, up to one that is weaker, or a parenthesis. */
        private void release(int strength) {
            for (int k = 0; k < MOST_OPEN && held > 0 && heldStrength[held - 1] >= strength; k++) {
                held--;
                code.addPart(heldPart[held], 0);
            }
        }

        private boolean beginsSum(int sort) {
            return sort == Tokens.WHOLE || sort == Tokens.NAME || sort == Tokens.OPEN || sort == Tokens.NOT
                    || sort == Tokens.MINUS || sort == Tokens.SELF && inThread;
        }

        /** Passes all that may stand before an operand, and answers how many parentheses were opened. */
        private int openOperand() {
            int opened = 0;
            for (int k = 0; k <= Tokens.MOST; k++) {
                int sort = sort();
                boolean prefix = sort == Tokens.NOT || sort == Tokens.MINUS;
                if (!beginsSum(sort)) {
                    refuse(2);
                }
                if (depthHere() + (prefix ? 1 : 0) > DEEPEST) {
                    refuse(3);
                }
                if (!prefix && sort != Tokens.OPEN) {
                    break;
                }
                if (prefix) {
                    hold(sort == Tokens.NOT ? Code.NOT : Code.NEGATE, PREFIX_STRENGTH, depthHere() + 1);
                } else {
                    hold(Code.SUM_END, 0, depthHere() + 1);
                    opened++;
                }
                pass();
            }
            return opened;
        }

        private static int strengthOf(int sort) {
            switch (sort) {
                case Tokens.OR:
                    return 1;
                case Tokens.AND:
                    return 2;
                case Tokens.EQUAL:
                case Tokens.UNEQUAL:
                case Tokens.LESS:
                case Tokens.AT_MOST:
                case Tokens.MORE:
                case Tokens.AT_LEAST:
                    return 3;
                case Tokens.PLUS:
                case Tokens.MINUS:
                    return 4;
                case Tokens.TIMES:
                case Tokens.OVER:
                case Tokens.MOD:
                    return 5;
                default:
                    return 0;
            }
        }

        private void readOperand() {
            if (sort() == Tokens.WHOLE) {
                code.addPart(Code.NUMBER, tokens.value[next]);
            } else if (sort() == Tokens.SELF) {
                code.addPart(Code.SELF, 0);
            } else {
                int local = knownFrom(0, next);
                names.use[next] = local == NONE ? Names.UNKNOWN_LOCAL : Names.NOTHING;
                code.addPart(Code.VALUE, local);
            }
            pass();
        }

        private void claimedCell() {
            boolean asRow = sortBehind() == Tokens.OPEN_ROW;
            code.addPart(Code.CLAIMED, next);
            names.use[next] = asRow ? Names.ROW : Names.CELL;
            pass();
            if (asRow) {
                pass();
                needFor(Tokens.WHOLE, Names.CLAIMED_PLACE);
                need(Tokens.CLOSE_ROW);
            }
        }

        /** Puts in place of each name's token what it means; all were judged, and are right. */
        void link() {
            for (int i = 0; i < steps.many; i++) {
                int token = steps.object[i];
                if (token != NONE && steps.op[i] <= Code.JOIN) {
                    int meaning = names.meaning[token];
                    boolean access = steps.op[i] <= Code.CAS;
                    steps.object[i] = access ? names.cellFirst[meaning] : meaning;
                    steps.row[i] = access ? names.cellRow[meaning] : 0;
                }
            }
            for (int i = 0; i < code.sumParts; i++) {
                int token = code.sumArg[i];
                if (code.sumPart[i] == Code.CLAIMED) {
                    int place = names.use[token] == Names.ROW ? tokens.value[token + 2] : 0;
                    code.sumPart[i] = Code.VALUE;
                    code.sumArg[i] = names.cellFirst[names.meaning[token]] + place;
                }
            }
        }
    }

    /** What the choice that was done last did, for those who keep a journal of it. */
    private static final class Deed {
        /** NONE when a late one came: that is no act. */
        int thread;
        int sort;
        int object;
        int read;
        int wrote;
        boolean failed;
        /** The threads that were woken, thread t being 2^t. */
        int woken;

        void clear(int newThread, int newSort, int newObject) {
            thread = newThread;
            sort = newSort;
            object = newObject;
            read = 0;
            wrote = 0;
            failed = false;
            woken = 0;
        }
    }

    /** One state of the program, the choices that it has, and what each of them does. */
    private static final class Machine {
        static final int ASLEEP = 0;
        static final int GOING = 1;
        static final int ENDED = 2;
        static final int FAILED = 3;

        /** Fields of a thread; locks, kinds and holders are held as their number and 1, so that 0 is none. */
        static final int STATUS = 0;
        static final int FAILURE = 1;
        static final int STEP = 2;
        static final int WAITS = 3;
        static final int OFTEN = 4;
        static final int WOKEN = 5;
        static final int KIND = 6;
        static final int LATE = 7;
        static final int FIRST_LOCAL = 8;

        static final int MOST_LATE = 8;
        /** 24 cells, 6 locks of 2, 6 threads of 8 fields, 8 locals and 8 late ones of 2. */
        static final int LONGEST = 24 + 12 + 6 * 32;
        private static final int MOST_LISTED = 6 * (6 + MOST_LATE);
        private static final int MOST_OWN = 300;
        private static final int FAR_MORE_STEPS = 1000000;

        final Code code;
        private final Steps steps;
        final Deed deed;
        int way;
        final int[] row;
        int size;
        private int lockAt;
        private int threadAt;
        private int stride;
        private int lateAt;
        final int[] listThread;
        /** Which late one of the thread comes; NONE if the choice is the thread's act. */
        final int[] listLate;
        final int[] listWoken;
        int listed;
        /** Why placeOf answered NONE. */
        private int placeFailure;

        Machine(Code code) {
            this.code = code;
            steps = code.steps;
            deed = new Deed();
            row = new int[LONGEST];
            listThread = new int[MOST_LISTED];
            listLate = new int[MOST_LISTED];
            listWoken = new int[MOST_LISTED];
        }

        void reset(int newWay) {
            way = newWay;
            lockAt = code.cells;
            threadAt = lockAt + 2 * code.locks;
            lateAt = FIRST_LOCAL + code.mostLocals;
            stride = lateAt + (way == 1 ? 2 * MOST_LATE : 0);
            size = threadAt + stride * code.threads;
            Arrays.fill(row, 0);
            for (int c = 0; c < code.cells; c++) {
                row[c] = code.cellStart[c];
            }
            for (int t = 0; t < code.threads; t++) {
                if (!code.threadIdle[t]) {
                    rouse(t);
                }
            }
        }

        int get(int t, int field) {
            return row[threadAt + t * stride + field];
        }

        private void set(int t, int field, int value) {
            row[threadAt + t * stride + field] = value;
        }

        boolean isGoing(int t) {
            return get(t, STATUS) == GOING;
        }

        boolean anyGoing() {
            for (int t = 0; t < code.threads; t++) {
                if (isGoing(t)) {
                    return true;
                }
            }
            return false;
        }

        boolean anyFailed() {
            for (int t = 0; t < code.threads; t++) {
                if (get(t, STATUS) == FAILED) {
                    return true;
                }
            }
            return false;
        }

        boolean isStuck() {
            return listed == 0 && anyGoing();
        }

        int allLate() {
            int sum = 0;
            for (int t = 0; t < code.threads; t++) {
                sum += get(t, LATE);
            }
            return sum;
        }

        int known(int t) {
            int status = get(t, STATUS);
            return status == GOING || status == FAILED ? steps.known[get(t, STEP)] : 0;
        }

        int lineOf(int t) {
            return isGoing(t) ? steps.line[get(t, STEP)] : 0;
        }

        int holder(int l) {
            return row[lockAt + 2 * l] - 1;
        }

        int often(int l) {
            return row[lockAt + 2 * l + 1];
        }

        private void setLock(int l, int holder, int often) {
            row[lockAt + 2 * l] = holder + 1;
            row[lockAt + 2 * l + 1] = often;
        }

        int heldBy(int t) {
            int held = 0;
            for (int l = 0; l < code.locks; l++) {
                if (holder(l) == t) {
                    held |= 1 << l;
                }
            }
            return held;
        }

        /** The threads that wait for a lock and are not woken yet, thread t being 2^t. */
        int waiters(int l) {
            int found = 0;
            for (int t = 0; t < code.threads; t++) {
                if (get(t, WAITS) == l + 1 && get(t, WOKEN) == 0) {
                    found |= 1 << t;
                }
            }
            return found;
        }

        int lateCell(int t, int j) {
            return get(t, lateAt + 2 * j);
        }

        private int lateValue(int t, int j) {
            return get(t, lateAt + 2 * j + 1);
        }

        private void setLate(int t, int j, int cell, int value) {
            set(t, lateAt + 2 * j, cell);
            set(t, lateAt + 2 * j + 1, value);
        }

        int seenBy(int t, int c) {
            for (int j = get(t, LATE) - 1; j >= 0; j--) {
                if (lateCell(t, j) == c) {
                    return lateValue(t, j);
                }
            }
            return row[c];
        }

        /** The sort of a going thread's next act. */
        int sortOf(int t) {
            return get(t, WAITS) != 0 ? Code.RETAKE : steps.op[get(t, STEP)];
        }

        /** The cell, lock, thread or kind of a going thread's next act; NONE without one. */
        int objectOf(int t) {
            return sortOf(t) <= Code.CAS ? placeOf(t) : steps.object[get(t, STEP)];
        }

        private int localsAt(int t) {
            return threadAt + t * stride + FIRST_LOCAL;
        }

        /** The cell of the access at which a thread is; NONE if its [ ] fails. */
        int placeOf(int t) {
            int step = get(t, STEP);
            int index = steps.index[step];
            if (index == NONE) {
                return steps.object[step];
            }
            int i = code.work(index, row, localsAt(t), t);
            if (code.broke || i < 0 || i >= steps.row[step]) {
                placeFailure = code.broke ? 1 : 2;
                return NONE;
            }
            return steps.object[step] + i;
        }

        private boolean goesLate(int step) {
            return way == 1 && steps.op[step] == Code.WRITE && !code.cellSure[steps.object[step]];
        }

        /** Whether the access at which a thread is would fail. */
        boolean accessFails(int t) {
            int step = get(t, STEP);
            if (placeOf(t) == NONE) {
                return true;
            }
            if (steps.first[step] != NONE) {
                code.work(steps.first[step], row, localsAt(t), t);
                if (code.broke) {
                    return true;
                }
            }
            if (steps.second[step] != NONE) {
                code.work(steps.second[step], row, localsAt(t), t);
                if (code.broke) {
                    return true;
                }
            }
            return goesLate(step) && get(t, LATE) >= MOST_LATE;
        }

        private boolean canAct(int t) {
            if (!isGoing(t)) {
                return false;
            }
            int step = get(t, STEP);
            int object = steps.object[step];
            switch (sortOf(t)) {
                case Code.READ:
                case Code.PAUSE:
                case Code.CALL:
                case Code.BACK:
                    return true;
                case Code.WRITE:
                    return goesLate(step) || get(t, LATE) == 0;
                case Code.TAKE:
                    return get(t, LATE) == 0 && (holder(object) == NONE || holder(object) == t);
                case Code.RETAKE:
                    return get(t, LATE) == 0 && get(t, WOKEN) == 1 && holder(object) == NONE;
                case Code.JOIN:
                    return get(t, LATE) == 0 && get(object, STATUS) >= ENDED && get(object, LATE) == 0;
                default:
                    return get(t, LATE) == 0;
            }
        }

        void listChoices() {
            listed = 0;
            for (int t = 0; t < code.threads; t++) {
                if (canAct(t)) {
                    listAct(t);
                }
                for (int j = 0; j < get(t, LATE); j++) {
                    if (isFirstOfCell(t, j)) {
                        list(t, j, NONE);
                    }
                }
            }
        }

        private void list(int t, int late, int woken) {
            if (listed < MOST_LISTED) {
                listThread[listed] = t;
                listLate[listed] = late;
                listWoken[listed] = woken;
                listed++;
            }
        }

        private void listAct(int t) {
            int step = get(t, STEP);
            int lock = steps.object[step];
            if (sortOf(t) != Code.WAKE || steps.target[step] == 1 || holder(lock) != t || waiters(lock) == 0) {
                list(t, NONE, NONE);
                return;
            }
            int waiting = waiters(lock);
            for (int u = 0; u < code.threads; u++) {
                if ((waiting >> u & 1) == 1) {
                    list(t, NONE, u);
                }
            }
        }

        private boolean isFirstOfCell(int t, int j) {
            for (int k = 0; k < j; k++) {
                if (lateCell(t, k) == lateCell(t, j)) {
                    return false;
                }
            }
            return true;
        }

        /** Does one of the choices that were listed; the list itself stays as it is. */
        void perform(int i) {
            int t = listThread[i];
            if (listLate[i] != NONE) {
                deed.clear(NONE, NONE, NONE);
                bringLate(t, listLate[i]);
                return;
            }
            int sort = sortOf(t);
            int step = get(t, STEP);
            deed.clear(t, sort, steps.object[step]);
            int failure = actFailure(t, step, sort, listWoken[i]);
            if (failure != 0) {
                deed.failed = true;
                fail(t, failure);
                return;
            }
            if (sort == Code.START) {
                rouse(steps.object[step]);
            }
            if (sort != Code.WAIT) {
                set(t, STEP, step + 1);
                settle(t);
            }
        }

        private void bringLate(int t, int j) {
            row[lateCell(t, j)] = lateValue(t, j);
            int last = get(t, LATE) - 1;
            for (int k = j; k < last; k++) {
                setLate(t, k, lateCell(t, k + 1), lateValue(t, k + 1));
            }
            setLate(t, last, 0, 0);
            set(t, LATE, last);
        }

        /** Does an act, and answers 0, or the number of its failure; then nothing was done. */
        private int actFailure(int t, int step, int sort, int woken) {
            int object = steps.object[step];
            switch (sort) {
                case Code.READ:
                case Code.WRITE:
                case Code.SWAP:
                case Code.ADD:
                case Code.CAS:
                    return doAccess(t, step, sort);
                case Code.TAKE:
                    setLock(object, t, often(object) + 1);
                    return 0;
                case Code.GIVE:
                    return doGive(t, object);
                case Code.WAIT:
                    return doWait(t, object);
                case Code.RETAKE:
                    return doRetake(t, object);
                case Code.WAKE:
                    return doWake(t, object, steps.target[step] == 1, woken);
                case Code.START:
                    return get(object, STATUS) == ASLEEP ? 0 : 7;
                case Code.CALL:
                case Code.BACK:
                    return doCallOrBack(t, step, sort);
                default:
                    return 0;
            }
        }

        private int doAccess(int t, int step, int sort) {
            int c = placeOf(t);
            deed.object = c;
            if (c == NONE) {
                return placeFailure;
            }
            int old = seenBy(t, c);
            if (sort == Code.READ) {
                deed.read = old;
                set(t, FIRST_LOCAL + steps.target[step], old);
                return 0;
            }
            int first = code.work(steps.first[step], row, localsAt(t), t);
            if (code.broke) {
                return 1;
            }
            return sort == Code.WRITE ? doWrite(t, step, c, first) : doExchange(t, step, c, first);
        }

        private int doWrite(int t, int step, int c, int value) {
            if (!goesLate(step)) {
                row[c] = value;
            } else {
                int late = get(t, LATE);
                if (late >= MOST_LATE) {
                    return 9;
                }
                setLate(t, late, c, value);
                set(t, LATE, late + 1);
            }
            deed.wrote = value;
            return 0;
        }

        private int doExchange(int t, int step, int c, int first) {
            int old = row[c];
            int answer = old;
            int fresh = first;
            if (steps.op[step] == Code.ADD) {
                fresh = old + first;
            } else if (steps.op[step] == Code.CAS) {
                int second = code.work(steps.second[step], row, localsAt(t), t);
                if (code.broke) {
                    return 1;
                }
                answer = old == first ? 1 : 0;
                fresh = old == first ? second : old;
            }
            row[c] = fresh;
            deed.read = old;
            deed.wrote = fresh;
            set(t, FIRST_LOCAL + steps.target[step], answer);
            return 0;
        }

        private int doGive(int t, int l) {
            if (holder(l) != t) {
                return 3;
            }
            int often = often(l) - 1;
            setLock(l, often == 0 ? NONE : t, often);
            return 0;
        }

        private int doWait(int t, int l) {
            if (holder(l) != t) {
                return 4;
            }
            set(t, WAITS, l + 1);
            set(t, OFTEN, often(l));
            setLock(l, NONE, 0);
            return 0;
        }

        private int doRetake(int t, int l) {
            setLock(l, t, get(t, OFTEN));
            set(t, WAITS, 0);
            set(t, OFTEN, 0);
            set(t, WOKEN, 0);
            return 0;
        }

        private int doWake(int t, int l, boolean all, int woken) {
            if (holder(l) != t) {
                return 4;
            }
            deed.woken = all ? waiters(l) : woken == NONE ? 0 : 1 << woken;
            for (int u = 0; u < code.threads; u++) {
                if ((deed.woken >> u & 1) == 1) {
                    set(u, WOKEN, 1);
                }
            }
            return 0;
        }

        private int doCallOrBack(int t, int step, int sort) {
            int value = code.work(steps.first[step], row, localsAt(t), t);
            if (code.broke) {
                return 1;
            }
            boolean inCall = get(t, KIND) != 0;
            if (inCall == (sort == Code.CALL)) {
                return 8;
            }
            set(t, KIND, sort == Code.CALL ? steps.object[step] + 1 : 0);
            deed.wrote = value;
            return 0;
        }

        private void rouse(int t) {
            set(t, STATUS, GOING);
            set(t, STEP, code.threadStart[t]);
            settle(t);
        }

        /** Does all that is a thread's own, up to before its next act. */
        private void settle(int t) {
            int own = 0;
            for (int k = 0; k < FAR_MORE_STEPS && isGoing(t); k++) {
                int step = get(t, STEP);
                int op = steps.op[step];
                if (op < Code.SET) {
                    break;
                }
                if (op < Code.JUMP) {
                    own++;
                }
                int failure = own > MOST_OWN ? 6 : ownFailure(t, step, op);
                if (failure != 0) {
                    fail(t, failure);
                }
            }
            blankUnknown(t);
        }

        /** Does a step of a thread's own, and answers 0, or the number of its failure. */
        private int ownFailure(int t, int step, int op) {
            if (op == Code.STOP || op == Code.QUIT) {
                set(t, STATUS, ENDED);
                set(t, STEP, 0);
                return 0;
            }
            if (op == Code.JUMP) {
                set(t, STEP, steps.target[step]);
                return 0;
            }
            int value = code.work(steps.first[step], row, localsAt(t), t);
            if (code.broke) {
                return 1;
            }
            if (op == Code.ASSERT && value == 0) {
                return 5;
            }
            if (op == Code.SET) {
                set(t, FIRST_LOCAL + steps.target[step], value);
            }
            set(t, STEP, op == Code.TEST && value == 0 ? steps.target[step] : step + 1);
            return 0;
        }

        private void fail(int t, int number) {
            set(t, STATUS, FAILED);
            set(t, FAILURE, number);
        }

        /** A number that is the same for the same state, and seldom for two. */
        int mix() {
            int mixed = mixPart(0, 0, threadAt);
            for (int t = 0; t < code.threads; t++) {
                mixed = mixPart(mixed, threadAt + t * stride, usedOf(t));
            }
            return mixed;
        }

        private int mixPart(int before, int from, int many) {
            int mixed = before;
            for (int i = from; i < from + many; i++) {
                mixed = (mixed ^ row[i]) * 0x01000193;
                mixed ^= mixed >>> 15;
            }
            return mixed;
        }

        /** How many of a thread's fields can be other than 0. */
        private int usedOf(int t) {
            return lateAt + 2 * get(t, LATE);
        }

        boolean isSame(int[] other) {
            boolean same = isSamePart(other, 0, threadAt);
            for (int t = 0; t < code.threads && same; t++) {
                same = isSamePart(other, threadAt + t * stride, usedOf(t));
            }
            return same;
        }

        private boolean isSamePart(int[] other, int from, int many) {
            for (int i = from; i < from + many; i++) {
                if (row[i] != other[i]) {
                    return false;
                }
            }
            return true;
        }

        /** Locals that are not known are no part of a state: two that differ in them alone have to be one. */
        private void blankUnknown(int t) {
            for (int i = known(t); i < code.mostLocals; i++) {
                set(t, FIRST_LOCAL + i, 0);
            }
        }
    }

    /** The choices and acts of a run, with what happens before what. */
    private static final class Journal {
        private static final int THREADS = Names.MOST_THREADS;

        private final Code code;
        final int[] chosen;
        int done;
        int acts;
        int calls;
        final int[] thread;
        final int[] sort;
        final int[] object;
        final int[] read;
        final int[] wrote;
        final boolean[] failed;
        /** How many races there are whose later act is this one, or one before it. */
        private final int[] racesUpTo;
        /** Of each act how many acts of each thread are before it, itself counted in. */
        private final int[] clock;
        private final int[] lastAct;
        private final int[] startClock;
        private final int[] lockClock;
        private final int[] cellClock;
        private final int[] wakeClock;

        Journal(Code code) {
            this.code = code;
            chosen = new int[MOST_CHOICES];
            thread = new int[MOST_CHOICES];
            sort = new int[MOST_CHOICES];
            object = new int[MOST_CHOICES];
            read = new int[MOST_CHOICES];
            wrote = new int[MOST_CHOICES];
            failed = new boolean[MOST_CHOICES];
            racesUpTo = new int[MOST_CHOICES];
            clock = new int[MOST_CHOICES * THREADS];
            lastAct = new int[THREADS];
            startClock = new int[THREADS * THREADS];
            lockClock = new int[Names.MOST_LOCKS * THREADS];
            cellClock = new int[Names.MOST_CELLS * THREADS];
            wakeClock = new int[THREADS * THREADS];
        }

        void clear() {
            done = 0;
            acts = 0;
            calls = 0;
            Arrays.fill(lastAct, NONE);
            Arrays.fill(startClock, 0);
            Arrays.fill(lockClock, 0);
            Arrays.fill(cellClock, 0);
            Arrays.fill(wakeClock, 0);
        }

        void note(int choice, Deed deed) {
            if (done >= MOST_CHOICES) {
                return;
            }
            chosen[done] = choice;
            done++;
            if (deed.thread == NONE) {
                return;
            }
            int a = acts;
            acts++;
            thread[a] = deed.thread;
            sort[a] = deed.sort;
            object[a] = deed.object;
            read[a] = deed.read;
            wrote[a] = deed.wrote;
            failed[a] = deed.failed;
            if (deed.sort == Code.CALL && !deed.failed) {
                calls++;
            }
            setClock(a);
            if (!deed.failed) {
                handOn(a, deed.woken);
            }
            racesUpTo[a] = (a == 0 ? 0 : racesUpTo[a - 1]) + racesOf(a);
        }

        private void setClock(int a) {
            int t = thread[a];
            for (int u = 0; u < THREADS; u++) {
                clock[a * THREADS + u] = 0;
            }
            if (lastAct[t] == NONE) {
                join(clock, a, startClock, t);
            } else {
                join(clock, a, clock, lastAct[t]);
            }
            if (!failed[a]) {
                takeOver(a);
            }
            clock[a * THREADS + t]++;
            lastAct[t] = a;
        }

        /** Brings to an act's clock what happens before it in other threads. */
        private void takeOver(int a) {
            int o = object[a];
            switch (sort[a]) {
                case Code.JOIN:
                    // a thread without acts has nothing that is before the join, not even its start
                    if (lastAct[o] != NONE) {
                        join(clock, a, clock, lastAct[o]);
                    }
                    break;
                case Code.RETAKE:
                    join(clock, a, wakeClock, thread[a]);
                    join(clock, a, lockClock, o);
                    break;
                case Code.TAKE:
                    join(clock, a, lockClock, o);
                    break;
                case Code.READ:
                case Code.SWAP:
                case Code.ADD:
                case Code.CAS:
                    if (code.cellSure[o]) {
                        join(clock, a, cellClock, o);
                    }
                    break;
                default:
                    break;
            }
        }

        /** Keeps an act's clock for those acts of other threads that it is before. */
        private void handOn(int a, int woken) {
            int o = object[a];
            switch (sort[a]) {
                case Code.START:
                    join(startClock, o, clock, a);
                    break;
                case Code.GIVE:
                case Code.WAIT:
                    join(lockClock, o, clock, a);
                    break;
                case Code.WAKE:
                    for (int u = 0; u < THREADS; u++) {
                        if ((woken >> u & 1) == 1) {
                            join(wakeClock, u, clock, a);
                        }
                    }
                    break;
                case Code.WRITE:
                case Code.SWAP:
                case Code.ADD:
                case Code.CAS:
                    if (code.cellSure[o]) {
                        join(cellClock, o, clock, a);
                    }
                    break;
                default:
                    break;
            }
        }

        private static void join(int[] to, int toRow, int[] from, int fromRow) {
            for (int u = 0; u < THREADS; u++) {
                int i = toRow * THREADS + u;
                to[i] = Math.max(to[i], from[fromRow * THREADS + u]);
            }
        }

        boolean isBefore(int a, int b) {
            int t = thread[a];
            return a != b && clock[b * THREADS + t] >= clock[a * THREADS + t];
        }

        int races() {
            return acts == 0 ? 0 : racesUpTo[acts - 1];
        }

        int laterOfRace(int i) {
            for (int a = 0; a < acts; a++) {
                if (racesUpTo[a] > i) {
                    return a;
                }
            }
            return NONE;
        }

        int earlierOfRace(int i, int later) {
            int left = i - (later > 0 ? racesUpTo[later - 1] : 0);
            for (int a = 0; a < later; a++) {
                if (isRace(a, later)) {
                    if (left == 0) {
                        return a;
                    }
                    left--;
                }
            }
            return NONE;
        }

        private int racesOf(int later) {
            if (!mayRace(later)) {
                return 0;
            }
            int many = 0;
            for (int a = 0; a < later; a++) {
                if (isRace(a, later)) {
                    many++;
                }
            }
            return many;
        }

        private boolean mayRace(int a) {
            return sort[a] <= Code.CAS && !failed[a] && !code.cellSure[object[a]];
        }

        private boolean isRace(int a, int later) {
            return object[a] == object[later] && thread[a] != thread[later] && mayRace(a)
                    && sortsRace(sort[a], sort[later]) && !isBefore(a, later);
        }

        /** Whether two accesses of one cell, by their sorts, can be a race. */
        static boolean sortsRace(int a, int b) {
            boolean bothRead = a == Code.READ && b == Code.READ;
            boolean bothExchange = a >= Code.SWAP && b >= Code.SWAP;
            return !bothRead && !bothExchange;
        }
    }

    /** Holds the calls of a run against a structure. */
    private static final class History {
        static final int MOST_CALLS = 12;
        private static final int CELL = 0;
        private static final int STACK = 1;
        private static final int SET = 3;
        private static final int NEVER = 1000000;

        private final int[] kind;
        private final int[] value;
        private final int[] answer;
        private final int[] began;
        private final int[] ended;
        /** The calls that were over before this one began, call c being 2^c. */
        private final int[] earlier;
        private int calls;
        private int events;
        private final int[] open;
        /** The structure after so many calls: how many it holds (of a cell its value), then what, the oldest first. */
        private final int[][] held;
        private int structure;
        private int begunMask;
        private int overMask;

        History() {
            kind = new int[MOST_CALLS];
            value = new int[MOST_CALLS];
            answer = new int[MOST_CALLS];
            began = new int[MOST_CALLS];
            ended = new int[MOST_CALLS];
            earlier = new int[MOST_CALLS];
            open = new int[Names.MOST_THREADS];
            held = new int[MOST_CALLS + 1][MOST_CALLS + 2];
        }

        void take(Journal journal) {
            calls = 0;
            events = 0;
            Arrays.fill(open, NONE);
            for (int a = 0; a < journal.acts; a++) {
                int sort = journal.sort[a];
                if (journal.failed[a] || sort != Code.CALL && sort != Code.BACK) {
                    continue;
                }
                if (sort == Code.CALL) {
                    beginCall(journal.thread[a], journal.object[a], journal.wrote[a]);
                } else {
                    endCall(journal.thread[a], journal.wrote[a]);
                }
                events++;
            }
        }

        private void beginCall(int t, int newKind, int newValue) {
            if (calls >= MOST_CALLS) {
                return;
            }
            kind[calls] = newKind;
            value[calls] = newValue;
            began[calls] = events;
            ended[calls] = NEVER;
            earlier[calls] = 0;
            for (int c = 0; c < calls; c++) {
                if (ended[c] < events) {
                    earlier[calls] |= 1 << c;
                }
            }
            open[t] = calls;
            calls++;
        }

        private void endCall(int t, int newAnswer) {
            if (open[t] != NONE) {
                answer[open[t]] = newAnswer;
                ended[open[t]] = events;
                open[t] = NONE;
            }
        }

        /** How many events, from the first one on, are the fewest that are not linear; NONE if all are. */
        int fewestThatFail(int newStructure) {
            structure = newStructure;
            if (isLinear(events)) {
                return NONE;
            }
            // what is linear stays so with fewer events, so that the bound can be found by halves
            int good = 0;
            int bad = events;
            for (int k = 0; k < NEVER && bad - good > 1; k++) {
                int middle = (good + bad) / 2;
                if (isLinear(middle)) {
                    good = middle;
                } else {
                    bad = middle;
                }
            }
            return bad;
        }

        private boolean isLinear(int upTo) {
            begunMask = 0;
            overMask = 0;
            for (int c = 0; c < calls; c++) {
                if (began[c] < upTo) {
                    begunMask |= 1 << c;
                }
                if (ended[c] < upTo) {
                    overMask |= 1 << c;
                }
            }
            Arrays.fill(held[0], 0);
            return canGoOn(0, 0);
        }

        /** Whether the calls that are not placed yet can stand behind those that are. */
        private boolean canGoOn(int depth, int placed) {
            if ((overMask & ~placed) == 0) {
                return true;
            }
            if (depth >= MOST_CALLS) {
                return false;
            }
            int left = begunMask & ~placed;
            for (int c = 0; c < calls; c++) {
                int bit = 1 << c;
                if ((left & bit) == 0 || (earlier[c] & ~placed) != 0) {
                    continue;
                }
                System.arraycopy(held[depth], 0, held[depth + 1], 0, MOST_CALLS + 2);
                int given = serve(held[depth + 1], kind[c], value[c]);
                boolean fits = (overMask & bit) == 0 || given == answer[c];
                if (fits && canGoOn(depth + 1, placed | bit)) {
                    return true;
                }
            }
            return false;
        }

        private int serve(int[] now, int callKind, int v) {
            if (structure == CELL) {
                return serveCell(now, callKind, v);
            }
            return structure == SET ? serveSet(now, callKind, v) : serveRow(now, callKind, v);
        }

        private static int serveCell(int[] now, int callKind, int v) {
            int old = now[0];
            if (callKind != 1) {
                now[0] = callKind == 2 ? old + v : v;
            }
            return callKind == 0 ? 0 : old;
        }

        /** A stack or a queue. */
        private int serveRow(int[] now, int callKind, int v) {
            int many = now[0];
            switch (callKind) {
                case 0:
                    append(now, v);
                    return 0;
                case 1:
                    return many == 0 ? -1 : removeAt(now, structure == STACK ? many : 1);
                case 2:
                    return many;
                default:
                    now[0] = 0;
                    return many;
            }
        }

        private static int serveSet(int[] now, int callKind, int v) {
            int at = find(now, v);
            switch (callKind) {
                case 0:
                    if (at == NONE) {
                        append(now, v);
                    }
                    return at == NONE ? 1 : 0;
                case 1:
                    if (at != NONE) {
                        removeAt(now, at);
                    }
                    return at == NONE ? 0 : 1;
                case 2:
                    return at == NONE ? 0 : 1;
                default:
                    return now[0];
            }
        }

        private static void append(int[] now, int v) {
            if (now[0] < MOST_CALLS) {
                now[0]++;
                now[now[0]] = v;
            }
        }

        private static int find(int[] now, int v) {
            for (int i = 1; i <= now[0]; i++) {
                if (now[i] == v) {
                    return i;
                }
            }
            return NONE;
        }

        private static int removeAt(int[] now, int at) {
            int v = now[at];
            for (int i = at; i < now[0]; i++) {
                now[i] = now[i + 1];
            }
            now[0]--;
            return v;
        }
    }

    /** What the trying of a way has told. */
    private static final class Trial {
        static final int FINDINGS = 11;
        static final int FIRST_FINAL = 4;
        static final int STUCK = 8;
        static final int FAILURE = 9;
        static final int RACING = 10;

        /** 0 when the way was not tried. */
        int states;
        boolean partly;
        int ends;
        int outcomes;
        int halted;
        int choices;
        final int[] firstOf;
        final int[] commonLocks;
        /** Of each lock those that it comes before, lock l being 2^l. */
        private final int[] comesBefore;
        private final int[] parent;
        private final int[] via;
        final int[] depth;
        private final int[][] outcomeRow;
        private final int[] outcomeOrder;

        Trial() {
            firstOf = new int[FINDINGS];
            commonLocks = new int[Names.MOST_CELLS];
            comesBefore = new int[Names.MOST_LOCKS];
            parent = new int[MOST_STATES];
            via = new int[MOST_STATES];
            depth = new int[MOST_STATES];
            outcomeRow = new int[MOST_STATES][];
            outcomeOrder = new int[MOST_STATES];
        }

        void clear(int allLocks) {
            states = 0;
            partly = false;
            ends = 0;
            outcomes = 0;
            halted = 0;
            choices = 0;
            Arrays.fill(firstOf, NONE);
            Arrays.fill(commonLocks, allLocks);
            Arrays.fill(comesBefore, 0);
        }

        void addState(int from, int choice) {
            if (states < MOST_STATES) {
                parent[states] = from;
                via[states] = choice;
                depth[states] = from == NONE ? 0 : depth[from] + 1;
                states++;
            }
        }

        void find(int f, int state) {
            if (firstOf[f] == NONE) {
                firstOf[f] = state;
            }
        }

        void pathTo(int state, int[] path) {
            int s = state;
            for (int k = depth[state] - 1; k >= 0 && k < path.length; k--) {
                path[k] = via[s];
                s = parent[s];
            }
        }

        void addTake(int held, int lock) {
            for (int a = 0; a < Names.MOST_LOCKS; a++) {
                if (a != lock && (held >> a & 1) == 1) {
                    comesBefore[a] |= 1 << lock;
                }
            }
        }

        int shortestRing() {
            int shortest = 0;
            for (int a = 0; a < Names.MOST_LOCKS; a++) {
                int far = ringFrom(a);
                if (far != 0 && (shortest == 0 || far < shortest)) {
                    shortest = far;
                }
            }
            return shortest;
        }

        private int ringFrom(int a) {
            int reached = 1 << a;
            for (int far = 1; far <= Names.MOST_LOCKS; far++) {
                int next = 0;
                for (int b = 0; b < Names.MOST_LOCKS; b++) {
                    if ((reached >> b & 1) == 1) {
                        next |= comesBefore[b];
                    }
                }
                if ((next >> a & 1) == 1) {
                    return far;
                }
                reached = next;
            }
            return 0;
        }

        int valueOf(int i, int c) {
            return outcomeRow[outcomeOrder[i]][c];
        }

        void addOutcome(int[] row, int cells) {
            int low = 0;
            int high = outcomes;
            for (int k = 0; k < MOST_STATES && low < high; k++) {
                int middle = (low + high) / 2;
                int order = order(outcomeRow[outcomeOrder[middle]], row, cells);
                if (order == 0) {
                    return;
                }
                if (order < 0) {
                    low = middle + 1;
                } else {
                    high = middle;
                }
            }
            insertOutcome(low, row, cells);
        }

        private void insertOutcome(int at, int[] row, int cells) {
            if (outcomes >= MOST_STATES) {
                return;
            }
            if (outcomeRow[outcomes] == null) {
                outcomeRow[outcomes] = new int[Names.MOST_CELLS];
            }
            System.arraycopy(row, 0, outcomeRow[outcomes], 0, cells);
            System.arraycopy(outcomeOrder, at, outcomeOrder, at + 1, outcomes - at);
            outcomeOrder[at] = outcomes;
            outcomes++;
        }

        private static int order(int[] a, int[] b, int cells) {
            for (int c = 0; c < cells; c++) {
                if (a[c] != b[c]) {
                    return a[c] < b[c] ? -1 : 1;
                }
            }
            return 0;
        }

        boolean sameOutcomes(Trial other, int cells) {
            if (outcomes != other.outcomes) {
                return false;
            }
            for (int i = 0; i < outcomes; i++) {
                if (order(outcomeRow[outcomeOrder[i]], other.outcomeRow[other.outcomeOrder[i]], cells) != 0) {
                    return false;
                }
            }
            return true;
        }
    }

    /** Tries all that a program can do by a way, state by state. */
    private static final class Explorer {
        private static final int TABLE = 8192;

        private final Code code;
        private final Machine machine;
        /** Each state's row; made when it is needed first, then used again by later tryings. */
        private final int[][] kept;
        private final int[] keptMix;
        /** The number of a state and 1, where its mix says; 0 is empty. */
        private final int[] table;
        private int slot;
        private int mix;
        private Trial trial;
        /** Of each thread the cell that it may access without failing, and by which sort; NONE without one. */
        private final int[] accessCell;
        private final int[] accessSort;

        Explorer(Code code) {
            this.code = code;
            machine = new Machine(code);
            kept = new int[MOST_STATES][];
            keptMix = new int[MOST_STATES];
            table = new int[TABLE];
            accessCell = new int[Names.MOST_THREADS];
            accessSort = new int[Names.MOST_THREADS];
        }

        void explore(int way, int limit, Trial newTrial) {
            trial = newTrial;
            trial.clear((1 << code.locks) - 1);
            Arrays.fill(table, 0);
            machine.reset(way);
            addState(NONE, NONE, limit);
            for (int s = 0; s < trial.states && s < MOST_STATES; s++) {
                recall(s);
                machine.listChoices();
                inspectActs();
                inspect(s);
                // states that were found are looked at, too, when no more of them can come
                for (int i = 0; i < machine.listed && !trial.partly; i++) {
                    recall(s);
                    machine.perform(i);
                    addState(s, i, limit);
                }
            }
        }

        /** Keeps the machine's state, if it is new. */
        private void addState(int from, int choice, int limit) {
            if (isKept()) {
                return;
            }
            if (trial.states >= limit) {
                trial.partly = true;
            } else {
                keep(from, choice);
            }
        }

        private void recall(int s) {
            System.arraycopy(kept[s], 0, machine.row, 0, machine.size);
        }

        /** Whether the machine's state is kept already; if not, slot and mix tell where it belongs. */
        private boolean isKept() {
            mix = machine.mix();
            slot = mix & (TABLE - 1);
            for (int k = 0; k < TABLE && table[slot] != 0; k++) {
                int s = table[slot] - 1;
                if (keptMix[s] == mix && machine.isSame(kept[s])) {
                    return true;
                }
                slot = (slot + 1) & (TABLE - 1);
            }
            return false;
        }

        private void keep(int from, int choice) {
            int s = trial.states;
            if (s >= MOST_STATES) {
                return;
            }
            if (kept[s] == null) {
                kept[s] = new int[Machine.LONGEST];
            }
            System.arraycopy(machine.row, 0, kept[s], 0, machine.size);
            keptMix[s] = mix;
            table[slot] = s + 1;
            trial.addState(from, choice);
        }

        private void inspect(int s) {
            trial.choices += machine.listed;
            for (int k = 0; k < code.always; k++) {
                if (isFalse(code.alwaysSum[k])) {
                    trial.find(k, s);
                }
            }
            if (machine.listed == 0) {
                inspectEnd(s);
            }
            if (machine.anyFailed()) {
                trial.find(Trial.FAILURE, s);
            }
            if (isRacing()) {
                trial.find(Trial.RACING, s);
            }
        }

        private void inspectEnd(int s) {
            trial.ends++;
            trial.addOutcome(machine.row, code.cells);
            if (machine.anyGoing()) {
                trial.find(Trial.STUCK, s);
                return;
            }
            for (int k = 0; k < code.finals; k++) {
                if (isFalse(code.finalSum[k])) {
                    trial.find(Trial.FIRST_FINAL + k, s);
                }
            }
        }

        private boolean isFalse(int sum) {
            return code.work(sum, machine.row, 0, 0) == 0 || code.broke;
        }

        private void inspectActs() {
            int acting = 0;
            for (int i = 0; i < machine.listed; i++) {
                if (machine.listLate[i] == NONE) {
                    acting |= 1 << machine.listThread[i];
                }
            }
            boolean halted = false;
            for (int t = 0; t < code.threads; t++) {
                accessCell[t] = NONE;
                if ((acting >> t & 1) == 1) {
                    inspectAct(t);
                } else if (machine.isGoing(t)) {
                    halted = true;
                }
            }
            if (halted) {
                trial.halted++;
            }
        }

        private void inspectAct(int t) {
            int sort = machine.sortOf(t);
            int object = machine.objectOf(t);
            if (sort == Code.TAKE) {
                trial.addTake(machine.heldBy(t), object);
            }
            if (sort > Code.CAS || object == NONE) {
                return;
            }
            trial.commonLocks[object] &= machine.heldBy(t);
            if (!code.cellSure[object] && !machine.accessFails(t)) {
                accessCell[t] = object;
                accessSort[t] = sort;
            }
        }

        private boolean isRacing() {
            for (int t = 0; t < code.threads; t++) {
                for (int u = 0; u < t; u++) {
                    if (accessCell[t] != NONE && accessCell[t] == accessCell[u]
                            && Journal.sortsRace(accessSort[t], accessSort[u])) {
                        return true;
                    }
                }
            }
            return false;
        }
    }
}
