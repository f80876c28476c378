/**
 * Texts of step programs: read into statements with units that agree, checked for what is never
 * done or barred, written in one form.
 */
public final class StepText {

    public static final int NONE = -1;

    private static final int MOST_BYTES = 4000;
    private static final int MOST_NAMES = 100;
    private static final int MOST_NODES = 1000;
    private static final int MOST_OPEN = 60;
    private static final int ACTS = 64;
    private static final int KINDS_OF_REMARKS = 5;
    private static final int LINE_END = 10;
    private static final int BLANK = 32;

    private final Words words;
    private final Grammar grammar;
    private final Page page;
    private Program program;
    private Program spare;
    private boolean paged;
    private long barred;

    public StepText() {
        Keywords keywords = new Keywords();
        Words split = new Words(keywords);
        Program first = new Program();
        Program second = new Program();
        words = split;
        program = first;
        spare = second;
        grammar = new Grammar(split, second);
        page = new Page(keywords, first);
    }

    public boolean unit(int u) {
        return words.append(u);
    }

    public int read() {
        words.split();
        try {
            grammar.readInto(spare);
        } catch (IllegalArgumentException refused) {
            return -1 - grammar.wrongPlace();
        }
        Program old = program;
        program = spare;
        spare = old;
        paged = false;
        return program.nodes().statements();
    }

    public int what(int n) {
        return program.nodes().kindOf(n);
    }

    public int child(int n, int k) {
        return program.nodes().heldBy(n, k);
    }

    public int line(int n) {
        return program.nodes().rowOf(n);
    }

    public long number(int n, int part) {
        Nodes nodes = program.nodes();
        if (!nodes.has(n) || part < 0 || part > 1) {
            return NONE;
        }
        return part == 0 ? nodes.valueOf(n) : nodes.sizeOf(n);
    }

    public int unitOf(int n) {
        Nodes nodes = program.nodes();
        return nodes.has(n) && nodes.kindOf(n) <= Nodes.NEGATIVE ? nodes.measureOf(n) : NONE;
    }

    public boolean bar(int act) {
        if (act < 0 || act >= ACTS || isBarred(act)) {
            return false;
        }
        barred |= 1L << act;
        return true;
    }

    public int check(int k, int what) {
        if (k < 0 || what < 0 || what > 1) {
            return NONE;
        }
        int left = k;
        for (int kind = 1; kind <= KINDS_OF_REMARKS; kind++) {
            boolean ofNodes = kind == 2 || kind == 3;
            int rows = ofNodes ? program.nodes().count() : program.names().count();
            for (int row = 0; row < rows; row++) {
                if (!isRemarked(kind, row)) {
                    continue;
                }
                if (left == 0) {
                    return what == 0 ? kind : row;
                }
                left--;
            }
        }
        return NONE;
    }

    public int branch(int n, int k) {
        return k < 0 ? NONE : program.nodes().blockOf(n, k);
    }

    public int write(int i) {
        if (!paged) {
            page.lay(program);
            paged = true;
        }
        return page.byteAt(i);
    }

    public void clear() {
        words.forget();
        program.empty();
        paged = false;
        barred = 0;
    }

    private boolean isBarred(int act) {
        return act >= 0 && act < ACTS && (barred >> act & 1) == 1;
    }

    private boolean isRemarked(int kind, int row) {
        switch (kind) {
            case 1:
                return program.names().isUnused(row, Keywords.STEP);
            case 2:
                return program.nodes().isLate(row);
            case 3:
                return program.nodes().kindOf(row) == Nodes.ACT
                        && isBarred(program.nodes().subjectOf(row));
            case 4:
                return program.names().isUnused(row, Keywords.OUTPUT);
            default:
                return program.names().isUnused(row, Keywords.SIGNAL);
        }
    }

    /**
     * Letter words packed into longs, so that they are kept and compared without an object each,
     * and the codes of those that are no NAMES.
     */
    private static final class Keywords {
        static final int BASE = 37;
        static final int MOST_LETTERS = 12;

        // The statements stand first, in the order of their nodes' kinds; then the codes go on.
        // One line, as texts are not to be joined by +.
        static final String SPELLED = "set wait until ramp par if repeat limit ask do stop hold act signal output step in else then l c s bar part min h ";
        static final int COUNT = 26;
        static final int SET = 200;
        static final int ACT = 212;
        static final int SIGNAL = 213;
        static final int OUTPUT = 214;
        static final int STEP = 215;
        static final int IN = 216;
        static final int ELSE = 217;
        static final int THEN = 218;
        static final int L = 219;
        static final int PART = 223;
        static final int MIN = 224;
        static final int H = 225;

        private final long[] packed = new long[COUNT];

        Keywords() {
            int key = 0;
            long letters = 0;
            for (int i = 0; i < SPELLED.length(); i++) {
                char c = SPELLED.charAt(i);
                if (c != ' ') {
                    letters = letters * BASE + rank(c);
                } else if (key < COUNT) {
                    packed[key] = letters;
                    key++;
                    letters = 0;
                }
            }
        }

        /** 1 to 26 for a letter, 27 to 36 for a digit, 0 for what stands in no letter word. */
        static int rank(int c) {
            if (c >= 'a' && c <= 'z') {
                return c - 'a' + 1;
            }
            return c >= '0' && c <= '9' ? c - '0' + 27 : 0;
        }

        static int unranked(int rank) {
            return rank <= 26 ? 'a' + rank - 1 : '0' + rank - 27;
        }

        int codeOf(long letters) {
            for (int key = 0; key < COUNT; key++) {
                if (packed[key] == letters) {
                    return SET + key;
                }
            }
            return Words.NAME;
        }

        long lettersOf(int code) {
            int key = code - SET;
            return key >= 0 && key < COUNT ? packed[key] : 0;
        }
    }

    /** The text as it is told, the words that it was last split into, and one of them at a time. */
    private static final class Words {
        static final int END = 0;
        // Words of one byte, and bytes that begin no word, have themselves as code.
        static final int NAME = 128;
        static final int WHOLE = 129;
        static final int POINTED = 130;
        static final int WRONG = 131;

        private static final int LAST_BYTE = 127;
        private static final int MOST_DIGITS = 9;
        private static final int MOST_DECIMALS = 3;

        private final Keywords keywords;
        private final byte[] text = new byte[MOST_BYTES];
        private final int[] codes = new int[MOST_BYTES + 1];
        private final int[] places = new int[MOST_BYTES + 1];
        private final int[] rows = new int[MOST_BYTES + 1];
        private final long[] values = new long[MOST_BYTES + 1];
        private int length;
        private int count;
        private int current;
        private int scan;
        private int scanRow;

        int code;
        int place;
        int row;
        long value;

        Words(Keywords keywords) {
            this.keywords = keywords;
        }

        boolean append(int u) {
            if (u < 1 || u > LAST_BYTE || length >= MOST_BYTES) {
                return false;
            }
            text[length] = (byte) u;
            length++;
            return true;
        }

        void forget() {
            length = 0;
        }

        /** Splits the text up to its end, or to a word that is wrong in itself, and forgets it. */
        void split() {
            scan = 0;
            scanRow = 1;
            count = 0;
            boolean more = true;
            for (int i = 0; i <= MOST_BYTES && more; i++) {
                skipBlanks();
                more = splitWord();
            }
            forget();
            current = NONE;
            advance();
        }

        /** The last word stays the current one, so that there is always one. */
        void advance() {
            if (current < count - 1 && current < MOST_BYTES) {
                current++;
            }
            if (current >= 0) {
                code = codes[current];
                place = places[current];
                row = rows[current];
                value = values[current];
            }
        }

        private void skipBlanks() {
            for (int i = 0; i < MOST_BYTES && isBlank(byteAt(scan)); i++) {
                if (byteAt(scan) == LINE_END) {
                    scanRow++;
                }
                scan++;
            }
        }

        private boolean splitWord() {
            int c = byteAt(scan);
            if (isDigit(c)) {
                return splitNumber();
            }
            if (Keywords.rank(c) > 0) {
                return splitLetters();
            }
            keep(c, scan, 0);
            scan++;
            return c != END;
        }

        private boolean splitLetters() {
            int start = scan;
            long letters = 0;
            for (int i = 0; i < Keywords.MOST_LETTERS && Keywords.rank(byteAt(scan)) > 0; i++) {
                letters = letters * Keywords.BASE + Keywords.rank(byteAt(scan));
                scan++;
            }
            return keepJoined(keywords.codeOf(letters), start, letters);
        }

        private boolean splitNumber() {
            int start = scan;
            long value = 0;
            for (int i = 0; i < MOST_DIGITS && isDigit(byteAt(scan)); i++) {
                value = value * 10 + byteAt(scan) - '0';
                scan++;
            }
            boolean pointed = byteAt(scan) == '.' && isDigit(byteAt(scan + 1));
            if (pointed) {
                scan++;
            }
            boolean decimal = pointed;
            for (int i = 0; i < MOST_DECIMALS; i++) {
                decimal = decimal && isDigit(byteAt(scan));
                value = value * 10 + (decimal ? byteAt(scan) - '0' : 0);
                scan += decimal ? 1 : 0;
            }
            return keepJoined(pointed ? POINTED : WHOLE, start, value);
        }

        /** Keeps a word, unless a byte stands directly behind it that would have to be its own. */
        private boolean keepJoined(int code, int start, long value) {
            int behind = byteAt(scan);
            if (behind == '.' || Keywords.rank(behind) > 0) {
                keep(WRONG, scan, 0);
                return false;
            }
            keep(code, start, value);
            return true;
        }

        private void keep(int code, int place, long value) {
            if (count <= MOST_BYTES) {
                codes[count] = code;
                places[count] = place;
                rows[count] = scanRow;
                values[count] = value;
                count++;
            }
        }

        private int byteAt(int place) {
            return place >= 0 && place < length && place < MOST_BYTES ? text[place] : END;
        }

        private static boolean isBlank(int c) {
            return c == BLANK || c == LINE_END;
        }

        private static boolean isDigit(int c) {
            return c >= '0' && c <= '9';
        }
    }

    /** The NAMES of a program; whether one is used means what its remark asks. */
    private static final class Names {
        private final long[] letters = new long[MOST_NAMES];
        private final int[] sorts = new int[MOST_NAMES];
        private final int[] measures = new int[MOST_NAMES];
        private final boolean[] used = new boolean[MOST_NAMES];
        private int count;

        void empty() {
            count = 0;
        }

        int count() {
            return count;
        }

        boolean has(int name) {
            return name >= 0 && name < count && name < MOST_NAMES;
        }

        int find(long spelled) {
            for (int name = 0; name < count && name < MOST_NAMES; name++) {
                if (letters[name] == spelled) {
                    return name;
                }
            }
            return NONE;
        }

        boolean canTell(long spelled) {
            return count < MOST_NAMES && find(spelled) == NONE;
        }

        void tell(long spelled, int sort, int measure) {
            if (count < MOST_NAMES) {
                letters[count] = spelled;
                sorts[count] = sort;
                measures[count] = measure;
                used[count] = false;
                count++;
            }
        }

        void use(int name) {
            if (has(name)) {
                used[name] = true;
            }
        }

        boolean isUsed(int name) {
            return has(name) && used[name];
        }

        boolean isUnused(int name, int sort) {
            return has(name) && sorts[name] == sort && !used[name];
        }

        long lettersOf(int name) {
            return has(name) ? letters[name] : 0;
        }

        int sortOf(int name) {
            return has(name) ? sorts[name] : NONE;
        }

        int measureOf(int name) {
            return has(name) ? measures[name] : NONE;
        }
    }

    /**
     * The nodes of a program. What lies in a node has the numbers directly before its own, so a node
     * takes in as children all that was added since its beginning and has no parent yet.
     */
    private static final class Nodes {
        static final int AMOUNT = 0;
        static final int NAME = 1;
        static final int PLUS = 2;
        static final int MINUS = 3;
        static final int TIMES = 4;
        static final int OVER = 5;
        static final int NEGATIVE = 6;
        static final int LESS = 7;
        static final int MORE = 9;
        static final int SET = 10;
        static final int WAIT = 11;
        static final int UNTIL = 12;
        static final int RAMP = 13;
        static final int PAR = 14;
        static final int IF = 15;
        static final int REPEAT = 16;
        static final int LIMIT = 17;
        static final int ASK = 18;
        static final int DO = 19;
        static final int STOP = 20;
        static final int ACT = 22;
        static final int BLOCK = 23;
        static final int STEP = 24;

        // The operators' signs, each at its node's kind.
        static final String SIGNS = "  +-*/ <=>";

        // Nodes too many are refused at the word behind them, and up to then one word can end a
        // number, each open - around it, a product, a sum and a test.
        private static final int ROOM = MOST_NODES + MOST_OPEN + 10;

        private final int[] kinds = new int[ROOM];
        private final int[] rows = new int[ROOM];
        private final long[] values = new long[ROOM];
        private final int[] measures = new int[ROOM];
        private final int[] lows = new int[ROOM];
        private final int[] sizes = new int[ROOM];
        private final int[] parents = new int[ROOM];
        private final int[] firsts = new int[ROOM];
        private final int[] nexts = new int[ROOM];
        private final boolean[] late = new boolean[ROOM];
        private int count;
        private int outerFirst = NONE;
        private int outerSize;
        private int statements;

        void empty() {
            count = 0;
            outerFirst = NONE;
            outerSize = 0;
            statements = 0;
        }

        int count() {
            return count;
        }

        int statements() {
            return statements;
        }

        boolean isTooMany() {
            return count > MOST_NODES;
        }

        boolean has(int n) {
            return n >= 0 && n < count && n < ROOM;
        }

        int add(int kind, int low, int row, long value, int measure) {
            if (count >= ROOM) {
                return NONE;
            }
            int n = count;
            kinds[n] = kind;
            lows[n] = low;
            rows[n] = row;
            values[n] = value;
            measures[n] = measure;
            firsts[n] = chainFrom(low, n);
            sizes[n] = followChain(firsts[n]);
            if (kind >= SET && kind <= ACT) {
                statements++;
            }
            count++;
            return n;
        }

        /** The nodes that no other one holds are those of the program outside of blocks. */
        void finish() {
            outerFirst = chainFrom(0, NONE);
            outerSize = followChain(outerFirst);
        }

        /** Chains the nodes from low on that no other one holds, below a parent: the first of them. */
        private int chainFrom(int low, int parent) {
            int first = NONE;
            int n = count - 1;
            for (int i = 0; i < ROOM && n >= low && n >= 0 && n < ROOM; i++) {
                parents[n] = parent;
                nexts[n] = first;
                first = n;
                n = lows[n] - 1;
            }
            return first;
        }

        /** How many nodes a chain has; those behind a stop are late. */
        private int followChain(int first) {
            boolean stopped = false;
            int size = 0;
            int n = first;
            for (; size < ROOM && n >= 0 && n < ROOM; size++) {
                late[n] = stopped;
                stopped = stopped || kinds[n] == STOP;
                n = nexts[n];
            }
            return size;
        }

        /** Whether a ; ends nodes of a kind: statements that have no blocks. */
        static boolean endsWithSemicolon(int kind) {
            return kind >= SET && kind < PAR || kind > LIMIT && kind <= ACT;
        }

        int kindOf(int n) {
            return has(n) ? kinds[n] : NONE;
        }

        int lowOf(int n) {
            return has(n) ? lows[n] : count;
        }

        int rowOf(int n) {
            return has(n) ? rows[n] : NONE;
        }

        long valueOf(int n) {
            return has(n) ? values[n] : NONE;
        }

        /** The NAME or the act that a node is of. */
        int subjectOf(int n) {
            return (int) valueOf(n);
        }

        int measureOf(int n) {
            return has(n) ? measures[n] : NONE;
        }

        int sizeOf(int n) {
            return has(n) ? sizes[n] : NONE;
        }

        int parentOf(int n) {
            return has(n) ? parents[n] : NONE;
        }

        int nextOf(int n) {
            return has(n) ? nexts[n] : NONE;
        }

        boolean isLate(int n) {
            return has(n) && late[n];
        }

        /** The first child of a node; of NONE the first node of the program. */
        int firstOf(int n) {
            if (n == NONE) {
                return outerFirst;
            }
            return has(n) ? firsts[n] : NONE;
        }

        /** Child k of a node; of NONE node k of the program. */
        int heldBy(int n, int k) {
            int size = n == NONE ? outerSize : sizeOf(n);
            if (k < 0 || k >= size) {
                return NONE;
            }
            int held = firstOf(n);
            for (int i = 0; i < k; i++) {
                held = nextOf(held);
            }
            return held;
        }

        int blockOf(int n, int k) {
            int left = k;
            int held = has(n) ? firsts[n] : NONE;
            for (int i = 0; i < ROOM && has(held); i++) {
                if (kinds[held] == BLOCK) {
                    if (left == 0) {
                        return held;
                    }
                    left--;
                }
                held = nexts[held];
            }
            return NONE;
        }
    }

    /** A program that was read: its NAMES and its nodes. */
    private static final class Program {
        private final Names names = new Names();
        private final Nodes nodes = new Nodes();

        Names names() {
            return names;
        }

        Nodes nodes() {
            return nodes;
        }

        void empty() {
            names.empty();
            nodes.empty();
        }

        void finish() {
            nodes.finish();
            useDoneSteps();
        }

        /**
         * A step is known only behind its declaration, so whoever does it has greater numbers than
         * its node: backwards, each step is met when it is already known whether it is done.
         */
        private void useDoneSteps() {
            boolean done = true;
            for (int n = nodes.count() - 1; n >= 0; n--) {
                int kind = nodes.kindOf(n);
                if (kind == Nodes.STEP) {
                    done = names.isUsed(nodes.subjectOf(n));
                } else if (kind == Nodes.DO && done) {
                    names.use(nodes.subjectOf(n));
                }
            }
        }
    }

    /** Reads the words into a program by the grammar; what is wrong ends the reading by a throw. */
    private static final class Grammar {
        private static final int SECONDS = 3;
        private static final int IN_A_MINUTE = 60;
        private static final int IN_AN_HOUR = 3600;
        private static final long MOST_VALUE = 999_999_999_999L;

        private final Words words;
        private Names names;
        private Nodes nodes;
        private int wrongPlace;

        Grammar(Words words, Program program) {
            this.words = words;
            this.names = program.names();
            this.nodes = program.nodes();
        }

        int wrongPlace() {
            return wrongPlace;
        }

        void readInto(Program program) {
            program.empty();
            names = program.names();
            nodes = program.nodes();
            for (int i = 0; i < MOST_BYTES && isBetween(Keywords.SIGNAL, Keywords.STEP); i++) {
                int sort = words.code;
                int row = words.row;
                long letters = readNewName();
                int measure = 0;
                if (sort == Keywords.STEP) {
                    int low = nodes.count();
                    readBlock(0);
                    nodes.add(Nodes.STEP, low, row, names.count(), 0);
                } else {
                    measure = readUnit();
                    take(';');
                }
                names.tell(letters, sort, measure);
            }
            for (int i = 0; i < MOST_BYTES && isBetween(Keywords.SET, Keywords.ACT); i++) {
                readStatement(0);
            }
            take(Words.END);
            program.finish();
        }

        private void refuse(int place) {
            wrongPlace = place;
            throw new IllegalArgumentException();
        }

        private boolean isBetween(int first, int last) {
            return words.code >= first && words.code <= last;
        }

        /** Goes on behind a word that can stand where it stands. */
        private void pass() {
            if (nodes.isTooMany()) {
                refuse(words.place);
            }
            words.advance();
            if (words.code == Words.WRONG) {
                refuse(words.place);
            }
        }

        private void take(int code) {
            if (words.code != code) {
                refuse(words.place);
            }
            pass();
        }

        private void refuseOneMore(int open) {
            if (open >= MOST_OPEN) {
                refuse(words.place);
            }
        }

        /** The letters of the NAME that is told behind the first word of a declaration. */
        private long readNewName() {
            pass();
            long letters = words.value;
            if (words.code != Words.NAME || !names.canTell(letters)) {
                refuse(words.place);
            }
            pass();
            return letters;
        }

        private int readUnit() {
            int measure = measureHere();
            if (measure > 0) {
                pass();
            }
            return measure;
        }

        private int measureHere() {
            return isBetween(Keywords.L, Keywords.PART) ? words.code - Keywords.L + 1 : 0;
        }

        private void readBlock(int open) {
            int low = nodes.count();
            int row = words.row;
            refuseOneMore(open);
            take('{');
            for (int i = 0; i < MOST_BYTES && isBetween(Keywords.SET, Keywords.ACT); i++) {
                readStatement(open + 1);
            }
            take('}');
            nodes.add(Nodes.BLOCK, low, row, 0, 0);
        }

        private void readStatement(int open) {
            int kind = words.code - Keywords.SET + Nodes.SET;
            int low = nodes.count();
            int row = words.row;
            int subject = 0;
            pass();
            switch (kind) {
                case Nodes.SET:
                case Nodes.RAMP:
                    subject = readName(Keywords.OUTPUT);
                    names.use(subject);
                    readSumOf(names.measureOf(subject), open);
                    if (kind == Nodes.RAMP) {
                        take(Keywords.IN);
                        readSumOf(SECONDS, open);
                    }
                    break;
                case Nodes.WAIT:
                    readSumOf(SECONDS, open);
                    break;
                case Nodes.UNTIL:
                    readTest(open);
                    break;
                case Nodes.ASK:
                    subject = readName(Keywords.SIGNAL);
                    names.use(subject);
                    break;
                case Nodes.DO:
                    subject = readName(Keywords.STEP);
                    break;
                case Nodes.ACT:
                    subject = readAct();
                    break;
                case Nodes.PAR:
                case Nodes.IF:
                case Nodes.REPEAT:
                case Nodes.LIMIT:
                    readBranches(kind, open);
                    break;
                default:
                    break;
            }
            if (Nodes.endsWithSemicolon(kind)) {
                take(';');
            }
            nodes.add(kind, low, row, subject, 0);
        }

        private void readBranches(int kind, int open) {
            if (kind == Nodes.REPEAT) {
                readSumOf(0, open);
            } else if (kind != Nodes.PAR) {
                readTest(open);
            }
            readBlock(open);
            if (kind == Nodes.LIMIT) {
                take(Keywords.THEN);
                readBlock(open);
            } else if (kind == Nodes.IF && words.code == Keywords.ELSE) {
                pass();
                readBlock(open);
            } else if (kind == Nodes.PAR) {
                readBlock(open);
                for (int i = 0; i < MOST_BYTES && words.code == '{'; i++) {
                    readBlock(open);
                }
            }
        }

        private int readName(int sort) {
            int name = words.code == Words.NAME ? names.find(words.value) : NONE;
            if (name == NONE || names.sortOf(name) != sort) {
                refuse(words.place);
            }
            pass();
            return name;
        }

        private int readAct() {
            long act = words.value / 1000;
            if (words.code != Words.WHOLE || act >= ACTS) {
                refuse(words.place);
            }
            pass();
            return (int) act;
        }

        private void readSumOf(int measure, int open) {
            int sum = readSum(open);
            if (nodes.measureOf(sum) != measure) {
                refuse(words.place);
            }
        }

        private void readTest(int open) {
            int left = readSum(open);
            int place = words.place;
            int kind = operator(Nodes.LESS, Nodes.MORE);
            if (kind == NONE) {
                refuse(place);
            }
            pass();
            join(kind, left, readSum(open), place);
        }

        private int readSum(int open) {
            int left = readProduct(open);
            int kind = operator(Nodes.PLUS, Nodes.MINUS);
            for (int i = 0; i < MOST_BYTES && kind != NONE; i++) {
                int place = words.place;
                pass();
                left = join(kind, left, readProduct(open), place);
                kind = operator(Nodes.PLUS, Nodes.MINUS);
            }
            return left;
        }

        private int readProduct(int open) {
            int left = readFactor(open);
            int kind = operator(Nodes.TIMES, Nodes.OVER);
            for (int i = 0; i < MOST_BYTES && kind != NONE; i++) {
                int place = words.place;
                pass();
                left = join(kind, left, readFactor(open), place);
                kind = operator(Nodes.TIMES, Nodes.OVER);
            }
            return left;
        }

        /** The kind of the operator that stands here, if it is one of these; NONE. */
        private int operator(int first, int last) {
            for (int kind = first; kind <= last && kind < Nodes.SIGNS.length(); kind++) {
                if (Nodes.SIGNS.charAt(kind) == words.code) {
                    return kind;
                }
            }
            return NONE;
        }

        private int join(int kind, int left, int right, int place) {
            int measure = joined(kind, nodes.measureOf(left), nodes.measureOf(right));
            if (measure == NONE) {
                refuse(place);
            }
            return nodes.add(kind, nodes.lowOf(left), nodes.rowOf(left), 0, measure);
        }

        /** The unit that two units give, or NONE when they do not agree. */
        private static int joined(int kind, int left, int right) {
            if (kind == Nodes.TIMES && left == 0) {
                return right;
            }
            if ((kind == Nodes.TIMES || kind == Nodes.OVER) && right == 0) {
                return left;
            }
            if (kind == Nodes.TIMES || left != right) {
                return NONE;
            }
            return kind == Nodes.OVER ? 0 : left;
        }

        private int readFactor(int open) {
            int row = words.row;
            int low = nodes.count();
            int inner;
            switch (words.code) {
                case Words.WHOLE:
                case Words.POINTED:
                    return readAmount();
                case '(':
                    refuseOneMore(open);
                    pass();
                    inner = readSum(open + 1);
                    take(')');
                    return inner;
                case '-':
                    refuseOneMore(open);
                    pass();
                    inner = readFactor(open + 1);
                    return nodes.add(Nodes.NEGATIVE, low, row, 0, nodes.measureOf(inner));
                default:
                    return readMeasured();
            }
        }

        private int readAmount() {
            int row = words.row;
            long value = words.value;
            pass();
            int measure = measureHere();
            if (isBetween(Keywords.MIN, Keywords.H)) {
                measure = SECONDS;
                value *= words.code == Keywords.MIN ? IN_A_MINUTE : IN_AN_HOUR;
            }
            if (value > MOST_VALUE) {
                refuse(words.place);
            }
            if (measure > 0) {
                pass();
            }
            return nodes.add(Nodes.AMOUNT, nodes.count(), row, value, measure);
        }

        /** A signal or an output in a sum. */
        private int readMeasured() {
            int row = words.row;
            int name = words.code == Words.NAME ? names.find(words.value) : NONE;
            if (name == NONE || names.sortOf(name) == Keywords.STEP) {
                refuse(words.place);
            }
            // A sum is no use of an output: that is only what a set or a ramp has.
            if (names.sortOf(name) == Keywords.SIGNAL) {
                names.use(name);
            }
            pass();
            return nodes.add(Nodes.NAME, nodes.count(), row, name, names.measureOf(name));
        }
    }

    /** A program as a text. */
    private static final class Page {
        // A word takes its bytes and a blank or line's end, so at most twice what it took as it was
        // read; only a number in min or h grows beyond that, by less than four bytes.
        private static final int ROOM = 2 * MOST_BYTES + 4 * MOST_NODES;
        private static final int GREATEST_POWER = 100_000_000;

        private final Keywords keywords;
        private final byte[] bytes = new byte[ROOM];
        private int length;
        private Names names;
        private Nodes nodes;

        Page(Keywords keywords, Program program) {
            this.keywords = keywords;
            this.names = program.names();
            this.nodes = program.nodes();
        }

        int byteAt(int i) {
            return i >= 0 && i < length && i < ROOM ? bytes[i] : NONE;
        }

        void lay(Program program) {
            names = program.names();
            nodes = program.nodes();
            length = 0;
            int top = nodes.firstOf(NONE);
            for (int name = 0; name < names.count(); name++) {
                if (names.sortOf(name) == Keywords.STEP) {
                    layNode(top);
                    top = nodes.nextOf(top);
                } else {
                    layDeclaration(name);
                }
            }
            for (int i = 0; i < MOST_NODES && top != NONE; i++) {
                layNode(top);
                top = nodes.nextOf(top);
            }
            beginLine();
        }

        private void layDeclaration(int name) {
            beginLine();
            putLetters(keywords.lettersOf(names.sortOf(name)));
            putLetters(names.lettersOf(name));
            putUnit(names.measureOf(name));
            putSign(';');
        }

        /** Goes round a node and all in it without recursion: a long sum is a deep tree. */
        private void layNode(int top) {
            int node = top;
            for (int i = 0; i < MOST_NODES && node != NONE; i++) {
                enter(node);
                int inner = nodes.firstOf(node);
                node = inner != NONE ? inner : leaveUpTo(top, node);
            }
        }

        /** Leaves a node and those that end with it: the one that comes then, NONE behind top. */
        private int leaveUpTo(int top, int from) {
            int node = from;
            for (int i = 0; i < MOST_NODES && node != NONE; i++) {
                leave(node);
                if (node == top) {
                    return NONE;
                }
                if (nodes.nextOf(node) != NONE) {
                    putBehind(node);
                    return nodes.nextOf(node);
                }
                node = nodes.parentOf(node);
            }
            return NONE;
        }

        private void enter(int n) {
            switch (nodes.kindOf(n)) {
                case Nodes.AMOUNT:
                    putAmount(nodes.valueOf(n));
                    putUnit(nodes.measureOf(n));
                    break;
                case Nodes.NAME:
                    putLetters(names.lettersOf(nodes.subjectOf(n)));
                    break;
                case Nodes.NEGATIVE:
                    putSign('-');
                    break;
                case Nodes.BLOCK:
                    putSign('{');
                    break;
                default:
                    if (nodes.kindOf(n) >= Nodes.SET) {
                        beginStatement(n);
                    } else if (isBracketed(n)) {
                        putSign('(');
                    }
                    break;
            }
        }

        private void beginStatement(int n) {
            int kind = nodes.kindOf(n);
            beginLine();
            putLetters(keywords.lettersOf(
                    kind == Nodes.STEP ? Keywords.STEP : kind - Nodes.SET + Keywords.SET));
            switch (kind) {
                case Nodes.SET:
                case Nodes.RAMP:
                case Nodes.ASK:
                case Nodes.DO:
                case Nodes.STEP:
                    putLetters(names.lettersOf(nodes.subjectOf(n)));
                    break;
                case Nodes.ACT:
                    putAmount(nodes.valueOf(n) * 1000);
                    break;
                default:
                    break;
            }
        }

        private void leave(int n) {
            int kind = nodes.kindOf(n);
            if (kind == Nodes.BLOCK) {
                beginLine();
                putSign('}');
            } else if (Nodes.endsWithSemicolon(kind)) {
                putSign(';');
            } else if (isBracketed(n)) {
                putSign(')');
            }
        }

        /** What stands between a node and the next one in the same node. */
        private void putBehind(int n) {
            int kind = nodes.kindOf(nodes.parentOf(n));
            boolean block = nodes.kindOf(n) == Nodes.BLOCK;
            if (kind >= 0 && kind <= Nodes.MORE) {
                putSign(Nodes.SIGNS.charAt(kind));
            } else if (kind == Nodes.RAMP) {
                putLetters(keywords.lettersOf(Keywords.IN));
            } else if (kind == Nodes.IF && block) {
                putLetters(keywords.lettersOf(Keywords.ELSE));
            } else if (kind == Nodes.LIMIT && block) {
                putLetters(keywords.lettersOf(Keywords.THEN));
            }
        }

        private boolean isBracketed(int n) {
            int parent = nodes.parentOf(n);
            int own = binding(nodes.kindOf(n));
            int outer = binding(nodes.kindOf(parent));
            if (own == 0 || own == binding(Nodes.NEGATIVE)) {
                return false;
            }
            return outer > own || outer == own && nodes.firstOf(parent) != n;
        }

        /** How tightly a kind binds; 0 for what never stands in brackets nor calls for them. */
        private static int binding(int kind) {
            switch (kind) {
                case Nodes.PLUS:
                case Nodes.MINUS:
                    return 1;
                case Nodes.TIMES:
                case Nodes.OVER:
                    return 2;
                case Nodes.NEGATIVE:
                    return 3;
                default:
                    return 0;
            }
        }

        private boolean isInLine() {
            return length > 0 && length <= ROOM && bytes[length - 1] != LINE_END;
        }

        private void beginLine() {
            if (isInLine()) {
                put(LINE_END);
            }
        }

        private void beginWord() {
            if (isInLine()) {
                put(BLANK);
            }
        }

        private void put(int b) {
            if (length < ROOM) {
                bytes[length] = (byte) b;
                length++;
            }
        }

        private void putSign(char sign) {
            beginWord();
            put(sign);
        }

        private void putUnit(int measure) {
            if (measure > 0) {
                putLetters(keywords.lettersOf(Keywords.L + measure - 1));
            }
        }

        private void putLetters(long letters) {
            beginWord();
            long power = 1;
            for (int i = 1; i < Keywords.MOST_LETTERS && letters / power >= Keywords.BASE; i++) {
                power *= Keywords.BASE;
            }
            for (; power > 0; power /= Keywords.BASE) {
                put(Keywords.unranked((int) (letters / power % Keywords.BASE)));
            }
        }

        private void putAmount(long value) {
            beginWord();
            long whole = value / 1000;
            for (int power = GREATEST_POWER; power > 0; power /= 10) {
                if (whole >= power || power == 1) {
                    put('0' + (int) (whole / power % 10));
                }
            }
            int rest = (int) (value % 1000);
            if (rest > 0) {
                put('.');
            }
            for (int power = 100; power > 0 && rest > 0; power /= 10) {
                put('0' + rest / power);
                rest %= power;
            }
        }
    }
}
