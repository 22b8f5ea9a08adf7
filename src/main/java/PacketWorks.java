import java.util.Arrays;

/**
 * A works for programs that packets run through: a text is read with the place of its first fault, its steps are laid
 * into stages, and a pipe does a stage each cycle.
 */
public final class PacketWorks {

    public static final int NONE = -1;

    private static final int TAPE_ROOM = 4000;
    private static final int FEED_WORDS = 5;
    private static final int FEED_BYTES = 20;
    private static final int LONGEST_RUN = 100;

    private static final int HEADERS = 12;
    private static final int FIELDS = 16;
    private static final int WIDEST = 64;
    private static final int HEADER_BITS = 512;
    private static final int INSTANCES = 12;
    private static final int METAS = 16;
    private static final int ARRAYS = 8;
    private static final int ARRAY_WORDS = 64;
    private static final int STATES = 16;
    private static final int EXTRACTS = 6;
    private static final int CASES = 8;
    private static final int ACTIONS = 16;
    private static final int PARAMETERS = 4;
    private static final int DEEDS = 12;
    private static final int TABLES = 8;
    private static final int KEYS = 4;
    private static final int LISTED = 8;
    private static final int STEPS = 48;
    private static final int BLOCKS = 8;
    private static final int DEPTH = 24;
    private static final int NODES = 800;
    private static final int STAGES = 12;
    private static final int STAGE_STEPS = 8;
    private static final int MOST_BUCKETS = 16;
    private static final int MOST_WAYS = 4;
    private static final int MOST_STASH = 8;
    private static final int MOST_ROOM = 32;
    private static final int ENTRY_ROWS = MOST_BUCKETS * MOST_WAYS + MOST_STASH;
    private static final int ENTRY_BITS = 8;

    private static final int PACKET_BYTES = 128;
    private static final int OUT_BYTES = INSTANCES * HEADER_BITS / 8 + PACKET_BYTES;
    private static final int LINE_ROOM = 40;
    private static final int KEPT_OUT = 64;
    /** More than the line, the stages and those kept have together, so that no two of them share a row. */
    private static final int OPERATIONS = 128;

    /** All that a packet carries stands in one row: each instance's validity and fields, the metas, DROPPED. */
    private static final int INSTANCE_SLOTS = FIELDS + 1;
    private static final int META_SLOTS = INSTANCES * INSTANCE_SLOTS;
    private static final int DROPPED_SLOT = META_SLOTS + METAS;
    private static final int SLOTS = DROPPED_SLOT + 1;
    /** How many longs hold a bit for each slot. */
    private static final int SET_LONGS = (SLOTS + 63) / 64;

    private static final int IN_PORT = 0;
    private static final int LENGTH = 1;
    private static final int OUT_PORT = 2;
    private static final int GIVEN_METAS = 3;
    private static final int PORT_BITS = 16;
    private static final long PORT_ONES = 0xffffL;

    /** The two states that are always there are numbered behind all others. */
    private static final int ACCEPT = STATES;
    private static final int REJECT = STATES + 1;
    /** Each instance is extracted once at most, and no state comes to itself without an extract. */
    private static final int STATE_MOVES = (INSTANCES + 2) * (STATES + 1);

    private static final int CANNOT_STAND = 1;
    private static final int NO_WORD = 2;
    private static final int THERE_ALREADY = 3;
    private static final int ONE_TOO_MANY = 4;
    private static final int BAD_NUMBER = 5;
    private static final int NOT_THERE = 6;
    private static final int BAD_WIDTH = 7;
    private static final int BROKEN_RULE = 8;

    /** A sign's code is its character, or of two characters the first times 256 and the second. */
    private static final int SAME = '=' * 256 + '=';
    private static final int OTHER = '!' * 256 + '=';
    private static final int AT_MOST = '<' * 256 + '=';
    private static final int AT_LEAST = '>' * 256 + '=';
    private static final int JOIN = '+' * 256 + '+';
    private static final int AND = '&' * 256 + '&';
    private static final int OR = '|' * 256 + '|';
    private static final int LEFT = '<' * 256 + '<';
    private static final int RIGHT = '>' * 256 + '>';
    private static final String SIGNS = "{}()[]:;,.?=<>+-&|^~!";
    private static final String TWICE_SIGNS = "=+&|<>";
    private static final String EQUAL_SIGNS = "!<>";

    private static final int NAME = 256;
    private static final int NUMBER = 257;
    private static final int TEXT_END = 258;
    private static final int LONGEST_NAME = 16;
    private static final int LONGEST_DECIMAL = 18;
    private static final int LONGEST_HEX = 16;
    /** The keywords' codes are numbered in the order in which they stand in KEYWORDS; some are sorts of names, too. */
    private static final String KEYWORDS = "header use meta array state extract goto select default action table key exact prefix masked actions room ways stash control apply if else emit add take drop load store valid as ";
    private static final int FIRST_KEYWORD = 300;
    private static final int KEYWORD_COUNT = 31;
    private static final int HEADER = 300;
    private static final int INSTANCE = 301;
    private static final int META = 302;
    private static final int ARRAY = 303;
    private static final int STATE = 304;
    private static final int EXTRACT = 305;
    private static final int GOTO = 306;
    private static final int SELECT = 307;
    private static final int DEFAULT = 308;
    private static final int ACTION = 309;
    private static final int TABLE = 310;
    private static final int KEY = 311;
    private static final int EXACT = 312;
    private static final int PREFIX = 313;
    private static final int MASKED = 314;
    private static final int ACTION_LIST = 315;
    private static final int ROOM = 316;
    private static final int WAYS = 317;
    private static final int STASH = 318;
    private static final int CONTROL = 319;
    private static final int APPLY = 320;
    private static final int IF = 321;
    private static final int ELSE = 322;
    private static final int EMIT = 323;
    private static final int ADD = 324;
    private static final int TAKE = 325;
    private static final int DROP = 326;
    private static final int LOAD = 327;
    private static final int STORE = 328;
    private static final int VALID = 329;
    private static final int AS = 330;
    private static final int NAMES = HEADERS + INSTANCES + METAS + ARRAYS + STATES + 2 + ACTIONS + TABLES;

    /** Kinds of nodes beside NUMBER and the signs. */
    private static final int SLOT = 400;
    private static final int PARAMETER = 401;
    private static final int SLICE = 402;
    private static final int CUT = 403;
    private static final int CHOICE = 404;
    private static final int NEGATE = 405;
    private static final int SAME_LEVEL = 3;
    /** Between two EXPRs in one another stand at most nine signs, a ? and what opens the inner one. */
    private static final int MARKS = DEPTH * 12;
    /** The 801st node is told at the next word, and until then all that stands open may be closed. */
    private static final int NODE_ROWS = NODES + MARKS + 2;

    private static final int PUT = '=';

    private static final int STATEMENT_STEP = 0;
    private static final int IF_STEP = 1;
    private static final int APPLY_STEP = 2;

    private static final int PACKET = 0;
    private static final int COMES = 1;
    private static final int CHANGES = 2;
    private static final int GOES = 3;
    private static final int DONE = 0;
    private static final int DROPPED = 1;
    private static final int REJECTED = 2;
    private static final int REFUSED = 1;

    /** Added to two longs, it makes Java's comparison with signs one without. */
    private static final long TOP_BIT = 1L << 63;

    private final int[] ready;
    private final byte[] tape;
    private int taped;
    private final long[] keyValue;
    private final long[] keyMask;
    private final long[] data;
    private final Text text;
    private final Program program;
    private final Reader reader;
    private final Pipe pipe;
    private boolean standing;
    private int homelessStep;

    public PacketWorks() {
        ready = new int[FEED_WORDS];
        tape = new byte[TAPE_ROOM];
        keyValue = new long[KEYS];
        keyMask = new long[KEYS];
        data = new long[PARAMETERS];
        text = new Text(tape);
        program = new Program();
        reader = new Reader(text, program);
        pipe = new Pipe(program);
        homelessStep = NONE;
    }

    public void feed(int a, int b, int c, int d, int e) {
        ready[0] = a;
        ready[1] = b;
        ready[2] = c;
        ready[3] = d;
        ready[4] = e;
    }

    public int end(int n) {
        if (n < 0 || n > FEED_BYTES || taped + n > TAPE_ROOM) {
            return NONE;
        }
        for (int i = 0; i < n; i++) {
            tape[taped + i] = (byte) (ready[i / 4] >>> 24 - 8 * (i % 4));
        }
        taped += n;
        Arrays.fill(ready, 0);
        return taped;
    }

    public int read() throws IllegalArgumentException {
        int length = taped;
        taped = 0;
        standing = false;
        homelessStep = NONE;
        program.clear();
        pipe.clear();
        text.open(length);
        boolean declares = true;
        for (int i = 0; i <= TAPE_ROOM && declares; i++) {
            switch (text.word) {
                case HEADER: reader.header(); break;
                case INSTANCE: reader.instance(); break;
                case META: reader.meta(); break;
                case ARRAY: reader.array(); break;
                case STATE: reader.state(); break;
                case ACTION: reader.action(); break;
                case TABLE: reader.table(); break;
                default: declares = false;
            }
        }
        reader.openControl();
        for (int i = 0; i <= TAPE_ROOM && reader.openBlocks > 0; i++) {
            reader.inBlock();
        }
        reader.emit();
        reader.close();
        standing = true;
        return program.nodes.made;
    }

    public int fault(int what) {
        return what == 0 ? text.faultKind : what == 1 ? text.faultAt : NONE;
    }

    public int size(int what) {
        if (!standing) {
            return NONE;
        }
        switch (what) {
            case 0: return program.headers;
            case 1: return program.instances;
            case 2: return program.metas;
            case 3: return program.arrays;
            case 4: return program.states.standing;
            case 5: return program.actions.made;
            case 6: return program.tableCount;
            case 7: return program.steps.made;
            case 8: return program.instanceBits();
            default: return NONE;
        }
    }

    public int lay(int stages, int memory, int wires)
            throws IllegalStateException, IllegalArgumentException, IndexOutOfBoundsException {
        if (!standing || program.steps.stages > 0) {
            throw new IllegalStateException("no program, or it is laid");
        }
        if (stages < 1 || stages > STAGES || memory < 0 || wires < 0) {
            throw new IllegalArgumentException("stages, memory or wires that may not be");
        }
        homelessStep = program.steps.settle(program, stages, memory, wires);
        if (homelessStep != NONE) {
            throw new IndexOutOfBoundsException("a step finds no stage");
        }
        return program.steps.stages;
    }

    public int homeless() {
        return homelessStep;
    }

    public int step(int step, int what) {
        Steps steps = program.steps;
        if (!standing || step < 0 || step >= steps.made) {
            return NONE;
        }
        switch (what) {
            case 0: return steps.kind[step];
            case 1: return steps.stages > 0 ? steps.home[step] : NONE;
            case 2: return steps.table[step];
            default: return NONE;
        }
    }

    public int stage(int stage, int what) {
        Steps steps = program.steps;
        if (!isLaid() || stage < 0 || stage >= steps.stages) {
            return NONE;
        }
        switch (what) {
            case 0: return steps.stageSteps[stage];
            case 1: return steps.stageMemory[stage];
            case 2: return steps.stageWires[stage];
            default: return NONE;
        }
    }

    public int packet(int port) throws IllegalStateException, IllegalArgumentException {
        if (!isLaid() || pipe.inLine() >= LINE_ROOM) {
            throw new IllegalStateException("not laid, or the line is full");
        }
        if (taped > PACKET_BYTES) {
            throw new IllegalArgumentException("a packet too long");
        }
        Operation operation = pipe.comer();
        operation.becomePacket(tape, taped, port);
        taped = 0;
        return pipe.came - 1;
    }

    public void key(int i, long value, long mask) throws IndexOutOfBoundsException {
        if (i < 0 || i >= KEYS) {
            throw new IndexOutOfBoundsException("no such key");
        }
        keyValue[i] = value;
        keyMask[i] = mask;
    }

    public void datum(int i, long word) throws IndexOutOfBoundsException {
        if (i < 0 || i >= PARAMETERS) {
            throw new IndexOutOfBoundsException("no such datum");
        }
        data[i] = word;
    }

    public int entry(int kind, int table, int priority, int action)
            throws IndexOutOfBoundsException, IllegalStateException {
        if (kind < 0 || kind > 2 || !isTable(table)) {
            throw new IndexOutOfBoundsException("no such kind or table");
        }
        if (!isLaid() || pipe.inLine() >= LINE_ROOM) {
            throw new IllegalStateException("not laid, or the line is full");
        }
        Operation operation = pipe.comer();
        operation.becomeEntry(kind + COMES, table, priority, action);
        operation.holdRows(keyValue, keyMask, data);
        return pipe.came - 1;
    }

    public int run(int n) throws IllegalStateException, IllegalArgumentException {
        if (!isLaid()) {
            throw new IllegalStateException("not laid");
        }
        if (n < 0 || n > LONGEST_RUN) {
            throw new IllegalArgumentException("so many cycles may not be");
        }
        int before = pipe.wentOut;
        for (int i = 0; i < n; i++) {
            pipe.cycle();
        }
        return pipe.wentOut - before;
    }

    public int out(int operation, int what) {
        Operation gone = pipe.goneOut(operation);
        if (gone == null) {
            return NONE;
        }
        boolean sent = gone.isSent();
        switch (what) {
            case 0: return gone.kind;
            case 1: return gone.outcome;
            case 2: return sent ? (int) gone.slots[META_SLOTS + OUT_PORT] : NONE;
            case 3: return sent ? gone.length : NONE;
            case 4: return gone.cycle;
            default: return NONE;
        }
    }

    public int byteAt(int operation, int i) {
        Operation gone = pipe.goneOut(operation);
        if (gone == null || !gone.isSent() || i < 0 || i >= gone.length) {
            return NONE;
        }
        return gone.bytes[i] & 255;
    }

    public int did(int operation, int step) {
        Operation gone = pipe.goneOut(operation);
        if (gone == null || gone.kind != PACKET || step < 0 || step >= program.steps.made) {
            return NONE;
        }
        return gone.did[step];
    }

    public long word(int array, int i) throws IllegalStateException {
        if (pipe.inStages() > 0) {
            throw new IllegalStateException("an operation is in a stage");
        }
        if (!isLaid() || array < 0 || array >= program.arrays || i < 0 || i >= program.arraySize[array]) {
            return 0;
        }
        return pipe.words[array * ARRAY_WORDS + i];
    }

    public int entries(int table, int what) throws IllegalStateException {
        if (pipe.inStages() > 0) {
            throw new IllegalStateException("an operation is in a stage");
        }
        if (!isTable(table)) {
            return NONE;
        }
        Table asked = program.tables[table];
        return what == 0 ? asked.held : what == 1 ? asked.above(asked.held) : NONE;
    }

    public int count(int what) {
        switch (what) {
            case 0: return pipe.came;
            case 1: return pipe.inLine();
            case 2: return pipe.inStages();
            case 3: return pipe.wentOut;
            case 4: return pipe.cycles;
            case 5: return standing ? program.steps.stages : 0;
            default: return NONE;
        }
    }

    private boolean isLaid() {
        return standing && program.steps.stages > 0;
    }

    private boolean isTable(int table) {
        return standing && table >= 0 && table < program.tableCount;
    }

    /** A one for each bit of a width from 1 to 64. */
    private static long ones(int width) {
        return width >= WIDEST ? -1L : (1L << width) - 1;
    }

    /** The words of a text, one at hand at a time, and the names that it has made so far. */
    private static final class Text {
        final byte[] bytes;
        final long[] keywords = new long[KEYWORD_COUNT];
        final long[] nameHigh = new long[NAMES];
        final long[] nameLow = new long[NAMES];
        final int[] nameSort = new int[NAMES];
        final int[] nameIndex = new int[NAMES];
        int names;
        int length;
        int at;
        int word;
        int wordAt;
        long number;
        /** The name at hand, a byte for each character, so that names are compared as two longs. */
        long high;
        long low;
        int faultKind;
        int faultAt = NONE;
        /** There is a node too many; it is told at the word at hand, behind all that speaks of words before it. */
        boolean overfull;

        Text(byte[] tape) {
            bytes = tape;
            int keyword = 0;
            int letters = 0;
            for (int i = 0; i < KEYWORDS.length() && keyword < KEYWORD_COUNT; i++) {
                char letter = KEYWORDS.charAt(i);
                if (letter == ' ') {
                    keyword++;
                    letters = 0;
                } else {
                    keywords[keyword] |= (long) letter << 56 - 8 * letters;
                    letters++;
                }
            }
        }

        void open(int textLength) {
            length = textLength;
            at = 0;
            names = 0;
            faultKind = 0;
            faultAt = NONE;
            overfull = false;
            makeGiven("in_port", META, IN_PORT);
            makeGiven("length", META, LENGTH);
            makeGiven("out_port", META, OUT_PORT);
            makeGiven("accept", STATE, ACCEPT);
            makeGiven("reject", STATE, REJECT);
            advance();
        }

        private void makeGiven(String name, int sort, int index) {
            high = 0;
            low = 0;
            for (int i = 0; i < name.length() && i < 8; i++) {
                high |= (long) name.charAt(i) << 56 - 8 * i;
            }
            makeName(sort, index);
        }

        void fail(int kind, int place) {
            boolean node = overfull && kind < BAD_WIDTH;
            faultKind = node ? ONE_TOO_MANY : kind;
            faultAt = node ? wordAt : place;
            throw new IllegalArgumentException("the text has a fault");
        }

        /** The word at hand can't stand there. */
        void refuse() {
            faultKind = overfull ? ONE_TOO_MANY : CANNOT_STAND;
            faultAt = wordAt;
            throw new IllegalArgumentException("a word that can't stand there");
        }

        void advance() {
            if (overfull) {
                fail(ONE_TOO_MANY, wordAt);
            }
            while (at < length && (bytes[at] == ' ' || bytes[at] == '\n')) {
                at++;
            }
            wordAt = at;
            int first = at < length ? bytes[at] & 255 : 0;
            if (at >= length) {
                word = TEXT_END;
            } else if (first >= 'a' && first <= 'z') {
                scanName();
                word = at - wordAt > LONGEST_NAME ? NONE : wordOfName();
            } else if (first >= '0' && first <= '9') {
                boolean hex = first == '0' && at + 1 < length && bytes[at + 1] == 'x';
                word = hex ? scanHex() : scanDecimal();
            } else {
                word = scanSign(first);
            }
            if (word == NONE) {
                fail(NO_WORD, wordAt);
            }
        }

        private void scanName() {
            high = 0;
            low = 0;
            boolean more = true;
            while (more && at < length) {
                int c = bytes[at];
                more = c >= 'a' && c <= 'z' || c >= '0' && c <= '9' || c == '_';
                if (more) {
                    int i = at - wordAt;
                    high |= i < 8 ? (long) c << 56 - 8 * i : 0;
                    low |= i >= 8 && i < LONGEST_NAME ? (long) c << 120 - 8 * i : 0;
                    at++;
                }
            }
        }

        private int wordOfName() {
            for (int i = 0; i < KEYWORD_COUNT && low == 0; i++) {
                if (keywords[i] == high) {
                    return FIRST_KEYWORD + i;
                }
            }
            return NAME;
        }

        private int scanDecimal() {
            number = 0;
            while (at < length && bytes[at] >= '0' && bytes[at] <= '9') {
                number = number * 10 + (bytes[at] - '0');
                at++;
            }
            return at - wordAt > LONGEST_DECIMAL ? NONE : NUMBER;
        }

        private int scanHex() {
            number = 0;
            at += 2;
            boolean more = true;
            while (more && at < length) {
                int c = bytes[at];
                boolean digit = c >= '0' && c <= '9';
                more = digit || c >= 'a' && c <= 'f';
                if (more) {
                    number = number << 4 | (digit ? c - '0' : c - 'a' + 10);
                    at++;
                }
            }
            int digits = at - wordAt - 2;
            return digits < 1 || digits > LONGEST_HEX ? NONE : NUMBER;
        }

        private int scanSign(int first) {
            if (SIGNS.indexOf((char) first) < 0) {
                return NONE;
            }
            int second = at + 1 < length ? bytes[at + 1] & 255 : 0;
            boolean twice = second == first && TWICE_SIGNS.indexOf((char) first) >= 0;
            boolean two = twice || second == '=' && EQUAL_SIGNS.indexOf((char) first) >= 0;
            at += two ? 2 : 1;
            return two ? first * 256 + second : first;
        }

        void expect(int wanted) {
            if (word != wanted) {
                refuse();
            }
            advance();
        }

        /** A number of a range, which is read behind the look at it. */
        int within(int least, int most) {
            if (word != NUMBER) {
                refuse();
            }
            if (number < least || number > most) {
                fail(BAD_NUMBER, wordAt);
            }
            int answer = (int) number;
            advance();
            return answer;
        }

        /** Where the name at hand stands among those made; NONE if it is not there. */
        int find() {
            for (int i = 0; i < names; i++) {
                if (nameHigh[i] == high && nameLow[i] == low) {
                    return i;
                }
            }
            return NONE;
        }

        /** The index that the name at hand has in its sort; NONE if it is not there, or of another sort. */
        int indexOf(int sort) {
            int found = find();
            return found != NONE && nameSort[found] == sort ? nameIndex[found] : NONE;
        }

        void makeName(int sort, int index) {
            if (names < NAMES) {
                nameHigh[names] = high;
                nameLow[names] = low;
                nameSort[names] = sort;
                nameIndex[names] = index;
                names++;
            }
        }

        /** A name that is made anew, as long as there are not too many of its sort. */
        void makeNew(int sort, int have, int most) {
            if (word != NAME) {
                refuse();
            }
            if (have >= most) {
                fail(ONE_TOO_MANY, wordAt);
            }
            if (find() != NONE) {
                fail(THERE_ALREADY, wordAt);
            }
            makeName(sort, have);
            advance();
        }

        /** The index of a name that must be there and of a sort. */
        int known(int sort) {
            if (word != NAME) {
                refuse();
            }
            int index = indexOf(sort);
            if (index == NONE) {
                fail(NOT_THERE, wordAt);
            }
            advance();
            return index;
        }
    }

    /** What a text has told: headers, instances, metas, arrays, what is emitted; and its greater parts. */
    private static final class Program {
        final int[] fieldWidth = new int[HEADERS * FIELDS];
        final long[] fieldHigh = new long[HEADERS * FIELDS];
        final long[] fieldLow = new long[HEADERS * FIELDS];
        final int[] instanceHeader = new int[INSTANCES];
        final int[] metaWidth = new int[METAS];
        final int[] arrayWidth = new int[ARRAYS];
        final int[] arraySize = new int[ARRAYS];
        final int[] emitted = new int[INSTANCES];
        final Table[] tables = new Table[TABLES];
        final Nodes nodes = new Nodes();
        final States states = new States();
        final Actions actions = new Actions();
        final Steps steps = new Steps();
        int headers;
        int instances;
        int metas;
        int arrays;
        int emits;
        int tableCount;

        Program() {
            for (int i = 0; i < TABLES; i++) {
                tables[i] = new Table();
            }
        }

        void clear() {
            Arrays.fill(fieldWidth, 0);
            headers = 0;
            instances = 0;
            metas = GIVEN_METAS;
            Arrays.fill(metaWidth, PORT_BITS);
            arrays = 0;
            emits = 0;
            tableCount = 0;
            nodes.made = 0;
            states.made = 0;
            states.standing = 0;
            actions.made = 0;
            actions.deeds = 0;
            steps.made = 0;
            steps.stages = 0;
        }

        int headerBits(int header) {
            int bits = 0;
            for (int i = 0; i < FIELDS; i++) {
                bits += fieldWidth[header * FIELDS + i];
            }
            return bits;
        }

        int instanceBits() {
            int bits = 0;
            for (int i = 0; i < instances; i++) {
                bits += headerBits(instanceHeader[i]);
            }
            return bits;
        }

        /** A field of a header by its name; a width of 0 tells that there is no field more. */
        int fieldOf(int header, long high, long low) {
            for (int i = 0; i < FIELDS; i++) {
                int row = header * FIELDS + i;
                if (fieldWidth[row] > 0 && fieldHigh[row] == high && fieldLow[row] == low) {
                    return i;
                }
            }
            return NONE;
        }

        /** The width of a field of an instance; 0 behind its last one. */
        int widthOfField(int instance, int field) {
            return field < FIELDS ? fieldWidth[instanceHeader[instance] * FIELDS + field] : 0;
        }

        int slotWidth(int slot) {
            if (slot >= META_SLOTS) {
                return metaWidth[slot - META_SLOTS];
            }
            int field = slot % INSTANCE_SLOTS - 1;
            return field < 0 ? 1 : widthOfField(slot / INSTANCE_SLOTS, field);
        }
    }

    /** The nodes of all EXPRs, each behind its operands, so that an EXPR is reckoned in one walk from first to last. */
    private static final class Nodes {
        final int[] kind = new int[NODE_ROWS];
        final int[] left = new int[NODE_ROWS];
        final int[] right = new int[NODE_ROWS];
        final int[] third = new int[NODE_ROWS];
        final int[] width = new int[NODE_ROWS];
        final int[] place = new int[NODE_ROWS];
        final long[] number = new long[NODE_ROWS];
        final long[] value = new long[NODE_ROWS];
        int made;

        /** Whether a node has a width; a NUMBER takes it, if it can. */
        boolean fits(int node, int wanted) {
            if (kind[node] != NUMBER) {
                return width[node] == wanted;
            }
            width[node] = wanted;
            return wanted >= WIDEST || number[node] >>> wanted == 0;
        }

        long valueOf(int first, int root, long[] slots, long[] parameters) {
            for (int i = first; i <= root; i++) {
                long reckoned;
                switch (kind[i]) {
                    case NUMBER: reckoned = number[i]; break;
                    case SLOT: reckoned = slots[left[i]]; break;
                    case PARAMETER: reckoned = parameters[left[i]]; break;
                    case SLICE: reckoned = value[left[i]] >>> right[i]; break;
                    case CHOICE: reckoned = value[left[i]] != 0 ? value[right[i]] : value[third[i]]; break;
                    case JOIN: reckoned = value[left[i]] << width[right[i]] | value[right[i]]; break;
                    default: reckoned = reckon(kind[i], value[left[i]], value[right[i]], width[i]);
                }
                value[i] = reckoned & ones(width[i]);
            }
            return value[root];
        }

        private long reckon(int sign, long a, long b, int shifted) {
            boolean inside = b >= 0 && b < shifted;
            switch (sign) {
                case CUT: return a;
                case NEGATE: return -a;
                case '~': return ~a;
                case '!': return a ^ 1;
                case '+': return a + b;
                case '-': return a - b;
                case '&': case AND: return a & b;
                case '|': case OR: return a | b;
                case '^': return a ^ b;
                case LEFT: return inside ? a << b : 0;
                case RIGHT: return inside ? a >>> b : 0;
                case SAME: return a == b ? 1 : 0;
                case OTHER: return a != b ? 1 : 0;
                case '<': return a + TOP_BIT < b + TOP_BIT ? 1 : 0;
                case AT_MOST: return a + TOP_BIT <= b + TOP_BIT ? 1 : 0;
                case '>': return a + TOP_BIT > b + TOP_BIT ? 1 : 0;
                case AT_LEAST: return a + TOP_BIT >= b + TOP_BIT ? 1 : 0;
                default: return 0;
            }
        }
    }

    /** The states that a packet is read by. */
    private static final class States {
        final int[] extracts = new int[STATES];
        final int[] extracted = new int[STATES * EXTRACTS];
        final int[] first = new int[STATES];
        /** The last node of select's EXPR; NONE with goto. */
        final int[] root = new int[STATES];
        final int[] cases = new int[STATES];
        final long[] caseValue = new long[STATES * CASES];
        final long[] caseMask = new long[STATES * CASES];
        final int[] caseGoal = new int[STATES * CASES];
        final int[] otherGoal = new int[STATES];
        final int[] namedAt = new int[STATES];
        /** Where its name behind state is; NONE as long as it is only named. */
        final int[] standsAt = new int[STATES];
        final int[] order = new int[STATES];
        final int[] reach = new int[STATES];
        int made;
        int standing;

        int add(int place) {
            int state = made;
            extracts[state] = 0;
            cases[state] = 0;
            root[state] = NONE;
            namedAt[state] = place;
            standsAt[state] = NONE;
            made++;
            return state;
        }

        void stand(int state, int place) {
            standsAt[state] = place;
            order[standing] = state;
            standing++;
        }

        int goalOf(int state, long value) {
            for (int i = 0; i < cases[state]; i++) {
                int row = state * CASES + i;
                if (((value ^ caseValue[row]) & caseMask[row]) == 0) {
                    return caseGoal[row];
                }
            }
            return otherGoal[state];
        }

        /** The place of the first state that was named and does not stand; NONE without. */
        int missing() {
            for (int i = 0; i < made; i++) {
                if (standsAt[i] == NONE) {
                    return namedAt[i];
                }
            }
            return NONE;
        }

        /** The place of the first state that comes to itself without an extract; NONE without. */
        int circling() {
            for (int i = 0; i < made; i++) {
                reach[i] = extracts[i] > 0 ? 0 : goalsOf(i);
            }
            for (int by = 0; by < made; by++) {
                for (int i = 0; i < made; i++) {
                    reach[i] |= (reach[i] >>> by & 1) != 0 ? reach[by] : 0;
                }
            }
            for (int i = 0; i < standing; i++) {
                if ((reach[order[i]] >>> order[i] & 1) != 0) {
                    return standsAt[order[i]];
                }
            }
            return NONE;
        }

        private int goalsOf(int state) {
            int goals = 1 << otherGoal[state];
            for (int i = 0; i < cases[state]; i++) {
                goals |= 1 << caseGoal[state * CASES + i];
            }
            return goals;
        }
    }

    /** Actions, and the statements of actions and of the control, in one row. */
    private static final class Actions {
        final int[] parameters = new int[ACTIONS];
        final int[] parameterWidth = new int[ACTIONS * PARAMETERS];
        final long[] parameterHigh = new long[ACTIONS * PARAMETERS];
        final long[] parameterLow = new long[ACTIONS * PARAMETERS];
        final int[] firstDeed = new int[ACTIONS];
        final int[] deedCount = new int[ACTIONS];
        final int[] deedKind = new int[ACTIONS * DEEDS + STEPS];
        final int[] deedSlot = new int[ACTIONS * DEEDS + STEPS];
        final int[] deedArray = new int[ACTIONS * DEEDS + STEPS];
        final int[] indexFirst = new int[ACTIONS * DEEDS + STEPS];
        final int[] indexRoot = new int[ACTIONS * DEEDS + STEPS];
        final int[] valueFirst = new int[ACTIONS * DEEDS + STEPS];
        final int[] valueRoot = new int[ACTIONS * DEEDS + STEPS];
        int made;
        int deeds;

        int addDeed(int kind) {
            int deed = deeds;
            deedKind[deed] = kind;
            deedSlot[deed] = NONE;
            deedArray[deed] = NONE;
            indexRoot[deed] = NONE;
            valueRoot[deed] = NONE;
            deeds++;
            return deed;
        }

        int parameterOf(int action, long high, long low) {
            for (int i = 0; action != NONE && i < parameters[action]; i++) {
                int row = action * PARAMETERS + i;
                if (parameterHigh[row] == high && parameterLow[row] == low) {
                    return i;
                }
            }
            return NONE;
        }

        int parameterBits(int action) {
            int bits = 0;
            for (int i = 0; i < parameters[action]; i++) {
                bits += parameterWidth[action * PARAMETERS + i];
            }
            return bits;
        }
    }

    /** A table and its entries, in the order in which they came. */
    private static final class Table {
        final int[] keyFirst = new int[KEYS];
        final int[] keyRoot = new int[KEYS];
        final int[] keyKind = new int[KEYS];
        final int[] keyWidth = new int[KEYS];
        final int[] listed = new int[LISTED];
        final long[] defaultData = new long[PARAMETERS];
        final long[] values = new long[ENTRY_ROWS * KEYS];
        final long[] masks = new long[ENTRY_ROWS * KEYS];
        final long[] data = new long[ENTRY_ROWS * PARAMETERS];
        final int[] priorities = new int[ENTRY_ROWS];
        final int[] chosen = new int[ENTRY_ROWS];
        final int[] filled = new int[MOST_BUCKETS];
        int keys;
        int listedCount;
        int defaultAction;
        /** Buckets of a hashed table, else how many entries there may be. */
        int room;
        int ways;
        int stash;
        int held;

        void clear() {
            keys = 0;
            listedCount = 0;
            room = 1;
            ways = 0;
            stash = 0;
            held = 0;
            Arrays.fill(defaultData, 0);
        }

        boolean isHashed() {
            for (int i = 0; i < keys; i++) {
                if (keyKind[i] != EXACT) {
                    return false;
                }
            }
            return true;
        }

        boolean lists(int action) {
            for (int i = 0; i < listedCount; i++) {
                if (listed[i] == action) {
                    return true;
                }
            }
            return false;
        }

        boolean hasKey(int kind) {
            for (int i = 0; i < keys; i++) {
                if (keyKind[i] == kind) {
                    return true;
                }
            }
            return false;
        }

        int wires() {
            int bits = 0;
            for (int i = 0; i < keys; i++) {
                bits += keyWidth[i];
            }
            return bits;
        }

        int memory(Actions actions) {
            int most = 0;
            for (int i = 0; i < listedCount; i++) {
                most = Math.max(most, actions.parameterBits(listed[i]));
            }
            boolean hashed = isHashed();
            int capacity = hashed ? room * ways + stash : room;
            int keyBits = hashed ? wires() : 2 * wires();
            return capacity * (keyBits + most + ENTRY_BITS);
        }

        /** The entry that matches; NONE without. */
        int match(long[] asked) {
            int best = NONE;
            int bestOnes = 0;
            for (int e = 0; e < held; e++) {
                boolean matches = true;
                int prefixOnes = 0;
                for (int i = 0; i < keys; i++) {
                    int row = e * KEYS + i;
                    matches &= ((asked[i] ^ values[row]) & masks[row]) == 0;
                    prefixOnes += keyKind[i] == PREFIX ? Long.bitCount(masks[row]) : 0;
                }
                boolean longer = best == NONE || prefixOnes > bestOnes;
                boolean ahead = longer || prefixOnes == bestOnes && priorities[e] > priorities[best];
                if (matches && ahead) {
                    best = e;
                    bestOnes = prefixOnes;
                }
            }
            return best;
        }

        /** Does what an operation on entries asks: DONE or REFUSED. */
        int serve(Operation asked, Actions actions) {
            boolean masksFit = cutKeys(asked.keyValue, asked.keyMask);
            boolean goes = asked.kind == GOES;
            if (!masksFit || !goes && !lists(asked.action)) {
                return REFUSED;
            }
            int entry = same(asked.keyValue, asked.keyMask);
            boolean comes = asked.kind == COMES;
            if (comes != (entry == NONE)) {
                return REFUSED;
            }
            if (goes) {
                remove(entry);
                return DONE;
            }
            if (comes) {
                if (!append(asked)) {
                    return REFUSED;
                }
                entry = held - 1;
            }
            chosen[entry] = asked.action;
            for (int i = 0; i < actions.parameters[asked.action]; i++) {
                int width = actions.parameterWidth[asked.action * PARAMETERS + i];
                data[entry * PARAMETERS + i] = asked.data[i] & ones(width);
            }
            return DONE;
        }

        /** Cuts masks to the keys' widths and values to the masks' ones; whether the masks are as their kinds want. */
        private boolean cutKeys(long[] value, long[] mask) {
            boolean fits = true;
            for (int i = 0; i < keys; i++) {
                long all = ones(keyWidth[i]);
                mask[i] &= all;
                value[i] &= mask[i];
                long gap = mask[i] ^ all;
                fits &= keyKind[i] != EXACT || gap == 0;
                fits &= keyKind[i] != PREFIX || (gap & gap + 1) == 0;
            }
            return fits;
        }

        private int same(long[] value, long[] mask) {
            for (int e = 0; e < held; e++) {
                boolean alike = true;
                for (int i = 0; i < keys; i++) {
                    alike &= values[e * KEYS + i] == value[i] && masks[e * KEYS + i] == mask[i];
                }
                if (alike) {
                    return e;
                }
            }
            return NONE;
        }

        /** Puts an entry behind the others, if there is room. */
        private boolean append(Operation asked) {
            if (held >= ENTRY_ROWS) {
                return false;
            }
            for (int i = 0; i < keys; i++) {
                values[held * KEYS + i] = asked.keyValue[i];
                masks[held * KEYS + i] = asked.keyMask[i];
            }
            priorities[held] = asked.priority;
            boolean full = isHashed() ? above(held + 1) > stash : held >= room;
            held += full ? 0 : 1;
            return !full;
        }

        private void remove(int entry) {
            for (int e = entry; e < held - 1; e++) {
                for (int i = 0; i < KEYS; i++) {
                    values[e * KEYS + i] = values[e * KEYS + KEYS + i];
                    masks[e * KEYS + i] = masks[e * KEYS + KEYS + i];
                    data[e * PARAMETERS + i] = data[e * PARAMETERS + PARAMETERS + i];
                }
                priorities[e] = priorities[e + 1];
                chosen[e] = chosen[e + 1];
            }
            held--;
        }

        /** How many of the first rows of entries are above the ways of their buckets. */
        int above(int rows) {
            if (!isHashed()) {
                return 0;
            }
            Arrays.fill(filled, 0);
            int sum = 0;
            for (int e = 0; e < rows; e++) {
                int bucket = bucketOf(e);
                filled[bucket]++;
                sum += filled[bucket] > ways ? 1 : 0;
            }
            return sum;
        }

        /** There are 1, 2, 4, 8 or 16 buckets, so that the lowest bits are the remainder without sign. */
        private int bucketOf(int entry) {
            long hash = 0;
            for (int i = 0; i < keys; i++) {
                long v = values[entry * KEYS + i];
                hash = 31 * hash + (v ^ v >>> 32 ^ v >>> 17);
            }
            return (int) (hash ^ hash >>> 20 ^ hash >>> 7) & room - 1 & MOST_BUCKETS - 1;
        }
    }

    /** The steps of the control, what each reads and writes, and the stages that they are laid into. */
    private static final class Steps {
        final int[] kind = new int[STEPS];
        /** The if in whose block a step stands, and what it must have answered; NONE outside. */
        final int[] parent = new int[STEPS];
        final int[] branch = new int[STEPS];
        final int[] table = new int[STEPS];
        final int[] deed = new int[STEPS];
        final int[] first = new int[STEPS];
        final int[] root = new int[STEPS];
        final int[] home = new int[STEPS];
        final long[] reads = new long[STEPS * SET_LONGS];
        final long[] writes = new long[STEPS * SET_LONGS];
        final int[] arraySet = new int[STEPS];
        final int[] stageSteps = new int[STAGES];
        final int[] stageMemory = new int[STAGES];
        final int[] stageWires = new int[STAGES];
        int made;
        /** How many stages are used; 0 as long as nothing is laid. */
        int stages;

        int add(int stepKind, int parentStep, int parentBranch) {
            int step = made;
            kind[step] = stepKind;
            parent[step] = parentStep;
            branch[step] = parentBranch;
            table[step] = NONE;
            deed[step] = NONE;
            root[step] = NONE;
            made++;
            return step;
        }

        /** The step that applies a table; NONE without. */
        int applying(int asked) {
            for (int i = 0; i < made; i++) {
                if (table[i] == asked) {
                    return i;
                }
            }
            return NONE;
        }

        /** Lays all steps: NONE, or the step that finds no stage. */
        int settle(Program program, int most, int memory, int wires) {
            Arrays.fill(stageSteps, 0);
            Arrays.fill(stageMemory, 0);
            Arrays.fill(stageWires, 0);
            int used = 1;
            for (int s = 0; s < made; s++) {
                gather(program, s);
                Table applied = table[s] == NONE ? null : program.tables[table[s]];
                int needMemory = applied == null ? 0 : applied.memory(program.actions);
                int needWires = applied == null ? 0 : applied.wires();
                int stage = earliest(s, most, memory - needMemory, wires - needWires);
                if (stage == NONE) {
                    return s;
                }
                home[s] = stage;
                stageSteps[stage]++;
                stageMemory[stage] += needMemory;
                stageWires[stage] += needWires;
                used = Math.max(used, stage + 1);
            }
            stages = used;
            return NONE;
        }

        /** The first stage where a step may be and where there is room beside what it needs itself. */
        private int earliest(int step, int most, int memoryLeft, int wiresLeft) {
            int from = 0;
            int only = NONE;
            for (int i = 0; i < step; i++) {
                boolean later = meet(writes, i, reads, step) || meet(writes, i, writes, step) || parent[step] == i;
                int least = later ? home[i] + 1 : meet(reads, i, writes, step) ? home[i] : 0;
                from = Math.max(from, least);
                if ((arraySet[i] & arraySet[step]) != 0) {
                    if (only != NONE && only != home[i]) {
                        return NONE;
                    }
                    only = home[i];
                }
            }
            for (int g = from; g < most; g++) {
                boolean may = only == NONE || only == g;
                boolean room = stageMemory[g] <= memoryLeft && stageWires[g] <= wiresLeft;
                if (may && room && stageSteps[g] < STAGE_STEPS) {
                    return g;
                }
            }
            return NONE;
        }

        private boolean meet(long[] one, int i, long[] other, int j) {
            for (int k = 0; k < SET_LONGS; k++) {
                if ((one[i * SET_LONGS + k] & other[j * SET_LONGS + k]) != 0) {
                    return true;
                }
            }
            return false;
        }

        /** Finds what a step reads and writes, and its arrays. */
        private void gather(Program program, int step) {
            for (int k = 0; k < SET_LONGS; k++) {
                reads[step * SET_LONGS + k] = 0;
                writes[step * SET_LONGS + k] = 0;
            }
            arraySet[step] = 0;
            if (kind[step] == IF_STEP) {
                gatherExpr(program.nodes, step, first[step], root[step]);
            } else if (kind[step] == STATEMENT_STEP) {
                gatherDeed(program, step, deed[step]);
            } else {
                Table applied = program.tables[table[step]];
                for (int i = 0; i < applied.keys; i++) {
                    gatherExpr(program.nodes, step, applied.keyFirst[i], applied.keyRoot[i]);
                }
                for (int i = 0; i < applied.listedCount; i++) {
                    gatherAction(program, step, applied.listed[i]);
                }
                gatherAction(program, step, applied.defaultAction);
            }
        }

        private void gatherAction(Program program, int step, int action) {
            Actions actions = program.actions;
            for (int i = 0; i < actions.deedCount[action]; i++) {
                gatherDeed(program, step, actions.firstDeed[action] + i);
            }
        }

        private void gatherDeed(Program program, int step, int which) {
            Actions actions = program.actions;
            gatherExpr(program.nodes, step, actions.indexFirst[which], actions.indexRoot[which]);
            gatherExpr(program.nodes, step, actions.valueFirst[which], actions.valueRoot[which]);
            if (actions.deedArray[which] != NONE) {
                arraySet[step] |= 1 << actions.deedArray[which];
            }
            int slot = actions.deedSlot[which];
            if (slot == NONE) {
                return;
            }
            mark(writes, step, slot);
            int whole = actions.deedKind[which] == ADD || actions.deedKind[which] == TAKE ? FIELDS : 0;
            for (int i = 1; i <= whole; i++) {
                mark(writes, step, slot + i);
            }
            if (whole == 0 && slot < META_SLOTS) {
                mark(reads, step, slot - slot % INSTANCE_SLOTS);
            }
        }

        private void gatherExpr(Nodes nodes, int step, int from, int last) {
            for (int i = from; last != NONE && i <= last; i++) {
                if (nodes.kind[i] == SLOT) {
                    int slot = nodes.left[i];
                    mark(reads, step, slot);
                    mark(reads, step, slot < META_SLOTS ? slot - slot % INSTANCE_SLOTS : slot);
                }
            }
        }

        private void mark(long[] set, int step, int slot) {
            set[step * SET_LONGS + slot / 64] |= 1L << slot % 64;
        }
    }

    /** Reads EXPRs: what stands open is kept in rows, not in calls, so that no text goes deep. */
    private static final class Formulas {
        private static final int ENDED = 0;
        private static final int WANTS_OPERAND = 1;
        private static final int CLOSED = 2;

        final Text text;
        final Program program;
        final Nodes nodes;
        /** What stands open: a sign with two operands, one ahead of an operand, ( or ? or its : . */
        final int[] mark = new int[MARKS];
        final int[] markAt = new int[MARKS];
        final int[] operand = new int[2 * MARKS];
        int marks;
        int operands;
        int depth;
        int action;

        Formulas(Text words, Program parts) {
            text = words;
            program = parts;
            nodes = parts.nodes;
        }

        /** Reads an EXPR, with the parameters of an action or NONE: its last node. Its first one is the next made. */
        int whole(int inAction) {
            action = inAction;
            marks = 0;
            operands = 0;
            depth = 1;
            int next = WANTS_OPERAND;
            for (int i = 0; i <= TAPE_ROOM && next != ENDED; i++) {
                if (next == WANTS_OPERAND) {
                    prefixes();
                    atom();
                }
                suffixes();
                next = goesOn();
            }
            return operand[0];
        }

        void mustFit(int root, int width) {
            if (!nodes.fits(root, width)) {
                text.fail(BAD_WIDTH, nodes.place[root]);
            }
        }

        private void prefixes() {
            boolean more = true;
            for (int i = 0; i <= TAPE_ROOM && more; i++) {
                if (text.word == '(') {
                    open('(');
                    deepen();
                } else if (text.word == '~' || text.word == '!' || text.word == '-') {
                    if (depth >= DEPTH) {
                        text.fail(ONE_TOO_MANY, text.wordAt);
                    }
                    depth++;
                    open(text.word == '-' ? NEGATE : text.word);
                } else {
                    more = false;
                }
            }
        }

        /** One EXPR more in one another: there must be a first word of it to tell that it is too many. */
        private void deepen() {
            depth++;
            boolean begins = text.word == NUMBER || text.word == NAME || text.word == VALID || text.word == '('
                    || text.word == '~' || text.word == '!' || text.word == '-';
            if (depth > DEPTH && begins) {
                text.fail(ONE_TOO_MANY, text.wordAt);
            }
        }

        private void open(int code) {
            if (marks >= MARKS) {
                text.fail(ONE_TOO_MANY, text.wordAt);
            }
            mark[marks] = code;
            markAt[marks] = text.wordAt;
            marks++;
            text.advance();
        }

        private void atom() {
            int place = text.wordAt;
            if (text.word == NUMBER) {
                long number = text.number;
                text.advance();
                nodes.number[add(NUMBER, 0, 0, WIDEST, place)] = number;
            } else if (text.word == VALID) {
                text.advance();
                add(SLOT, text.known(INSTANCE) * INSTANCE_SLOTS, 0, 1, place);
            } else if (text.word == NAME) {
                int parameter = program.actions.parameterOf(action, text.high, text.low);
                if (parameter != NONE) {
                    int width = program.actions.parameterWidth[action * PARAMETERS + parameter];
                    text.advance();
                    add(PARAMETER, parameter, 0, width, place);
                } else {
                    int slot = placeSlot();
                    add(SLOT, slot, 0, program.slotWidth(slot), place);
                }
            } else {
                text.refuse();
            }
        }

        /** Reads a PLACE: its slot. */
        int placeSlot() {
            int meta = text.indexOf(META);
            if (meta != NONE) {
                text.advance();
                return META_SLOTS + meta;
            }
            int instance = text.indexOf(INSTANCE);
            if (instance == NONE) {
                text.fail(NOT_THERE, text.wordAt);
            }
            text.advance();
            if (text.word != '.') {
                text.refuse();
            }
            text.advance();
            if (text.word != NAME) {
                text.refuse();
            }
            int field = program.fieldOf(program.instanceHeader[instance], text.high, text.low);
            if (field == NONE) {
                text.fail(NOT_THERE, text.wordAt);
            }
            text.advance();
            return instance * INSTANCE_SLOTS + 1 + field;
        }

        /** Makes a node, the latest operand. One too many is told at the next word, behind widths that come first. */
        private int add(int kind, int left, int right, int width, int place) {
            int node = Math.min(nodes.made, NODE_ROWS - 1);
            nodes.kind[node] = kind;
            nodes.left[node] = left;
            nodes.right[node] = right;
            nodes.width[node] = width;
            nodes.place[node] = place;
            nodes.made = node + 1;
            text.overfull = nodes.made > NODES;
            operand[operands] = node;
            operands++;
            return node;
        }

        private void suffixes() {
            for (int i = 0; i <= TAPE_ROOM && (text.word == '[' || text.word == AS); i++) {
                int of = operand[operands - 1];
                boolean cut = text.word == AS;
                text.advance();
                if (cut) {
                    int width = text.within(1, WIDEST);
                    operands--;
                    add(CUT, of, 0, width, nodes.place[of]);
                    continue;
                }
                int highAt = text.wordAt;
                long high = text.number;
                text.expect(NUMBER);
                text.expect(':');
                long low = text.number;
                text.expect(NUMBER);
                boolean inside = high >= 0 && high < nodes.width[of] && low >= 0 && low <= high;
                if (!inside) {
                    text.fail(BAD_WIDTH, highAt);
                }
                text.expect(']');
                operands--;
                add(SLICE, of, (int) low, (int) (high - low) + 1, nodes.place[of]);
            }
        }

        /** Closes what ends at the word at hand, and reads that word if it belongs to the EXPR. */
        private int goesOn() {
            for (int i = 0; i < MARKS && isSingle(top()); i++) {
                closeSingle();
            }
            int level = levelOf(text.word);
            int closing = level == 0 ? 1 : level == SAME_LEVEL ? level + 1 : level;
            for (int i = 0; i < MARKS && levelOf(top()) >= closing; i++) {
                closePair();
            }
            if (level > 0 && (level != SAME_LEVEL || levelOf(top()) != SAME_LEVEL)) {
                open(text.word);
                return WANTS_OPERAND;
            }
            for (int i = 0; i < MARKS && levelOf(top()) > 0; i++) {
                closePair();
            }
            if (text.word == '?' && top() != '?') {
                open('?');
                return WANTS_OPERAND;
            }
            if (top() == '?') {
                text.expect(':');
                mark[marks - 1] = ':';
                deepen();
                return WANTS_OPERAND;
            }
            for (int i = 0; i < MARKS && top() == ':'; i++) {
                closeChoice();
            }
            return marks == 0 ? ENDED : closeBracket();
        }

        private int top() {
            return marks > 0 ? mark[marks - 1] : NONE;
        }

        private static boolean isSingle(int code) {
            return code == NEGATE || code == '~' || code == '!';
        }

        /** How near a sign binds its two operands; 0 of all else. */
        private static int levelOf(int code) {
            switch (code) {
                case OR: return 1;
                case AND: return 2;
                case SAME: case OTHER: case '<': case AT_MOST: case '>': case AT_LEAST: return SAME_LEVEL;
                case '|': return 4;
                case '^': return 5;
                case '&': return 6;
                case LEFT: case RIGHT: return 7;
                case '+': case '-': return 8;
                case JOIN: return 9;
                default: return 0;
            }
        }

        private void closeSingle() {
            int code = mark[marks - 1];
            int of = operand[operands - 1];
            int wanted = code == '!' ? 1 : nodes.width[of];
            if (!nodes.fits(of, wanted)) {
                text.fail(BAD_WIDTH, nodes.place[of]);
            }
            marks--;
            depth--;
            operands--;
            add(code, of, 0, wanted, markAt[marks]);
        }

        private void closePair() {
            int code = mark[marks - 1];
            int left = operand[operands - 2];
            int right = operand[operands - 1];
            int level = levelOf(code);
            int width = nodes.width[left];
            if (code == AND || code == OR) {
                agree(left, NONE);
                agree(right, NONE);
                width = 1;
            } else if (code == JOIN) {
                width = joined(left, right);
            } else if (code != LEFT && code != RIGHT) {
                agree(left, right);
                width = level == SAME_LEVEL ? 1 : nodes.width[left];
            }
            marks--;
            operands -= 2;
            add(code, left, right, width, nodes.place[left]);
        }

        private void closeChoice() {
            int asked = operand[operands - 3];
            int yes = operand[operands - 2];
            int no = operand[operands - 1];
            agree(asked, NONE);
            agree(yes, no);
            marks--;
            depth--;
            operands -= 3;
            nodes.third[add(CHOICE, asked, yes, nodes.width[yes], nodes.place[asked])] = no;
        }

        /** Two operands of one width, of which a NUMBER has the other's; or one of a bit, if the second is NONE. */
        private void agree(int left, int right) {
            boolean numberLeft = right != NONE && nodes.kind[left] == NUMBER && nodes.kind[right] != NUMBER;
            int looked = right == NONE || numberLeft ? left : right;
            int width = right == NONE ? 1 : numberLeft ? nodes.width[right] : nodes.width[left];
            if (!nodes.fits(looked, width)) {
                text.fail(BAD_WIDTH, nodes.place[looked]);
            }
        }

        private int joined(int left, int right) {
            int width = nodes.width[left] + nodes.width[right];
            boolean numberLeft = nodes.kind[left] == NUMBER;
            if (numberLeft || nodes.kind[right] == NUMBER || width > WIDEST) {
                text.fail(BAD_WIDTH, nodes.place[numberLeft ? left : right]);
            }
            return width;
        }

        /** A ( around an EXPR belongs to it when its place is told. */
        private int closeBracket() {
            if (text.word != ')') {
                text.refuse();
            }
            marks--;
            depth--;
            nodes.place[operand[operands - 1]] = markAt[marks];
            text.advance();
            return CLOSED;
        }
    }

    /** Reads all of a program but its EXPRs. */
    private static final class Reader {
        final Text text;
        final Program program;
        final Formulas formulas;
        final States states;
        final Actions actions;
        final Steps steps;
        /** The if of each block that stands open, and whether it is the first or the second one. */
        final int[] blockIf = new int[BLOCKS + 1];
        final int[] blockBranch = new int[BLOCKS + 1];
        int openBlocks;

        Reader(Text words, Program parts) {
            text = words;
            program = parts;
            formulas = new Formulas(words, parts);
            states = parts.states;
            actions = parts.actions;
            steps = parts.steps;
        }

        void header() {
            text.advance();
            int header = program.headers;
            int place = text.wordAt;
            text.makeNew(HEADER, header, HEADERS);
            program.headers++;
            text.expect('{');
            for (int i = 0; i <= FIELDS && (i == 0 || text.word == NAME); i++) {
                field(header, i);
            }
            if (text.word != '}') {
                text.refuse();
            }
            int bits = program.headerBits(header);
            if (bits % 8 != 0 || bits > HEADER_BITS) {
                text.fail(BROKEN_RULE, place);
            }
            text.advance();
        }

        private void field(int header, int i) {
            if (text.word != NAME) {
                text.refuse();
            }
            if (i >= FIELDS) {
                text.fail(ONE_TOO_MANY, text.wordAt);
            }
            if (program.fieldOf(header, text.high, text.low) != NONE) {
                text.fail(THERE_ALREADY, text.wordAt);
            }
            int row = header * FIELDS + i;
            program.fieldHigh[row] = text.high;
            program.fieldLow[row] = text.low;
            text.advance();
            text.expect(':');
            program.fieldWidth[row] = text.within(1, WIDEST);
            text.expect(';');
        }

        void instance() {
            text.advance();
            int instance = program.instances;
            text.makeNew(INSTANCE, instance, INSTANCES);
            program.instances++;
            text.expect(':');
            program.instanceHeader[instance] = text.known(HEADER);
            text.expect(';');
        }

        void meta() {
            text.advance();
            int meta = program.metas;
            text.makeNew(META, meta, METAS);
            program.metas++;
            text.expect(':');
            program.metaWidth[meta] = text.within(1, WIDEST);
            text.expect(';');
        }

        void array() {
            text.advance();
            int array = program.arrays;
            text.makeNew(ARRAY, array, ARRAYS);
            program.arrays++;
            text.expect(':');
            program.arrayWidth[array] = text.within(1, WIDEST);
            text.expect('[');
            program.arraySize[array] = text.within(1, ARRAY_WORDS);
            text.expect(']');
            text.expect(';');
        }

        void state() {
            text.advance();
            int place = text.wordAt;
            int state = text.word == NAME ? text.indexOf(STATE) : NONE;
            if (state >= 0 && state < STATES && states.standsAt[state] == NONE) {
                text.advance();
            } else {
                text.makeNew(STATE, states.made, STATES);
                state = states.add(place);
            }
            states.stand(state, place);
            text.expect('{');
            for (int i = 0; i <= EXTRACTS && text.word == EXTRACT; i++) {
                extract(state, i);
            }
            if (text.word == SELECT) {
                select(state);
            } else {
                text.expect(GOTO);
                states.otherGoal[state] = goal();
                text.expect(';');
            }
            text.expect('}');
        }

        private void extract(int state, int i) {
            if (i >= EXTRACTS) {
                text.fail(ONE_TOO_MANY, text.wordAt);
            }
            text.advance();
            states.extracted[state * EXTRACTS + i] = text.known(INSTANCE);
            states.extracts[state] = i + 1;
            text.expect(';');
        }

        private void select(int state) {
            text.advance();
            states.first[state] = program.nodes.made;
            int root = formulas.whole(NONE);
            states.root[state] = root;
            text.expect('{');
            for (int i = 0; i <= CASES && text.word == NUMBER; i++) {
                selectCase(state, i, program.nodes.width[root]);
            }
            text.expect(DEFAULT);
            text.expect(':');
            states.otherGoal[state] = goal();
            text.expect(';');
            text.expect('}');
        }

        private void selectCase(int state, int i, int width) {
            if (i >= CASES) {
                text.fail(ONE_TOO_MANY, text.wordAt);
            }
            int row = state * CASES + i;
            states.caseValue[row] = fittingNumber(width);
            states.caseMask[row] = ones(width);
            if (text.word == '&') {
                text.advance();
                states.caseMask[row] = fittingNumber(width);
            }
            text.expect(':');
            states.caseGoal[row] = goal();
            states.cases[state] = i + 1;
            text.expect(';');
        }

        private long fittingNumber(int width) {
            long number = text.number;
            int place = text.wordAt;
            text.expect(NUMBER);
            if ((number & ~ones(width)) != 0) {
                text.fail(BAD_WIDTH, place);
            }
            return number;
        }

        /** A state that is named: it may stand later, and is there from now on. */
        private int goal() {
            if (text.word != NAME || text.find() != NONE) {
                return text.known(STATE);
            }
            int place = text.wordAt;
            text.makeNew(STATE, states.made, STATES);
            return states.add(place);
        }

        void action() {
            text.advance();
            int action = actions.made;
            text.makeNew(ACTION, action, ACTIONS);
            actions.made++;
            actions.parameters[action] = 0;
            text.expect('(');
            boolean more = text.word != ')';
            for (int i = 0; i <= PARAMETERS && more; i++) {
                parameter(action, i);
                more = goesOnList();
            }
            text.expect(')');
            text.expect('{');
            actions.firstDeed[action] = actions.deeds;
            for (int i = 0; i <= DEEDS && isStatement(); i++) {
                if (i >= DEEDS) {
                    text.fail(ONE_TOO_MANY, text.wordAt);
                }
                statement(action);
            }
            actions.deedCount[action] = actions.deeds - actions.firstDeed[action];
            text.expect('}');
        }

        private void parameter(int action, int i) {
            if (text.word != NAME) {
                text.refuse();
            }
            if (i >= PARAMETERS) {
                text.fail(ONE_TOO_MANY, text.wordAt);
            }
            if (actions.parameterOf(action, text.high, text.low) != NONE) {
                text.fail(THERE_ALREADY, text.wordAt);
            }
            int row = action * PARAMETERS + i;
            actions.parameterHigh[row] = text.high;
            actions.parameterLow[row] = text.low;
            text.advance();
            text.expect(':');
            actions.parameterWidth[row] = text.within(1, WIDEST);
            actions.parameters[action] = i + 1;
        }

        /** Reads the , of a list, if there is one. */
        private boolean goesOnList() {
            if (text.word != ',') {
                return false;
            }
            text.advance();
            return true;
        }

        private boolean isStatement() {
            switch (text.word) {
                case NAME: case LOAD: case STORE: case ADD: case TAKE: case DROP: return true;
                default: return false;
            }
        }

        /** Reads a statement, with the parameters of an action or NONE: its number. */
        private int statement(int action) {
            int kind = text.word == NAME ? PUT : text.word;
            int deed = actions.addDeed(kind);
            if (kind != PUT) {
                text.advance();
            }
            if (kind == PUT || kind == LOAD) {
                actions.deedSlot[deed] = writtenSlot();
            }
            if (kind == PUT) {
                text.expect('=');
            }
            if (kind == LOAD || kind == STORE) {
                arrayOf(deed);
                text.expect('[');
                actions.indexFirst[deed] = program.nodes.made;
                actions.indexRoot[deed] = formulas.whole(action);
                text.expect(']');
            }
            if (kind == PUT || kind == STORE) {
                int array = actions.deedArray[deed];
                int width = kind == STORE ? program.arrayWidth[array] : program.slotWidth(actions.deedSlot[deed]);
                actions.valueFirst[deed] = program.nodes.made;
                actions.valueRoot[deed] = formulas.whole(action);
                formulas.mustFit(actions.valueRoot[deed], width);
            }
            if (kind == ADD || kind == TAKE) {
                actions.deedSlot[deed] = text.known(INSTANCE) * INSTANCE_SLOTS;
            }
            if (kind == DROP) {
                actions.deedSlot[deed] = DROPPED_SLOT;
            }
            text.expect(';');
            return deed;
        }

        private int writtenSlot() {
            if (text.word != NAME) {
                text.refuse();
            }
            int meta = text.indexOf(META);
            if (meta == IN_PORT || meta == LENGTH) {
                text.fail(NOT_THERE, text.wordAt);
            }
            return formulas.placeSlot();
        }

        /** Reads an array's name, and looks whether what is loaded fits. */
        private void arrayOf(int deed) {
            int place = text.wordAt;
            int array = text.known(ARRAY);
            actions.deedArray[deed] = array;
            int slot = actions.deedSlot[deed];
            if (slot != NONE && program.slotWidth(slot) != program.arrayWidth[array]) {
                text.fail(BAD_WIDTH, place);
            }
        }

        void table() {
            text.advance();
            int index = program.tableCount;
            text.makeNew(TABLE, index, TABLES);
            program.tableCount++;
            Table table = program.tables[index];
            table.clear();
            text.expect('{');
            for (int i = 0; i <= KEYS && (i == 0 || text.word == KEY); i++) {
                keyLine(table, i);
            }
            text.expect(ACTION_LIST);
            boolean more = true;
            for (int i = 0; i <= LISTED && more; i++) {
                listedAction(table, i);
                more = goesOnList();
            }
            text.expect(';');
            text.expect(DEFAULT);
            defaultLine(table);
            text.expect(ROOM);
            roomLine(table);
            text.expect('}');
        }

        private void keyLine(Table table, int i) {
            if (text.word == KEY && i >= KEYS) {
                text.fail(ONE_TOO_MANY, text.wordAt);
            }
            text.expect(KEY);
            table.keyFirst[i] = program.nodes.made;
            int root = formulas.whole(NONE);
            table.keyRoot[i] = root;
            table.keyWidth[i] = program.nodes.width[root];
            text.expect(':');
            int kind = text.word;
            int place = text.wordAt;
            if (kind != EXACT && kind != PREFIX && kind != MASKED) {
                text.refuse();
            }
            text.advance();
            boolean clash = kind != EXACT && table.hasKey(PREFIX) || kind == PREFIX && table.hasKey(MASKED);
            if (clash) {
                text.fail(BROKEN_RULE, place);
            }
            table.keyKind[i] = kind;
            table.keys = i + 1;
            text.expect(';');
        }

        private void listedAction(Table table, int i) {
            int place = text.wordAt;
            if (text.word == NAME && i >= LISTED) {
                text.fail(ONE_TOO_MANY, place);
            }
            int action = text.known(ACTION);
            if (table.lists(action)) {
                text.fail(BROKEN_RULE, place);
            }
            table.listed[i] = action;
            table.listedCount = i + 1;
        }

        private void defaultLine(Table table) {
            int place = text.wordAt;
            int action = text.known(ACTION);
            table.defaultAction = action;
            text.expect('(');
            int wanted = actions.parameters[action];
            int given = 0;
            boolean more = text.word != ')';
            for (int i = 0; i <= TAPE_ROOM && more; i++) {
                boolean taken = given < wanted;
                int width = taken ? actions.parameterWidth[action * PARAMETERS + given] : WIDEST;
                long number = fittingNumber(width);
                if (taken) {
                    table.defaultData[given] = number;
                }
                given++;
                more = goesOnList();
            }
            if (text.word == ')' && given != wanted) {
                text.fail(BROKEN_RULE, place);
            }
            text.expect(')');
            text.expect(';');
        }

        private void roomLine(Table table) {
            boolean hashed = table.isHashed();
            int place = text.wordAt;
            boolean isNumber = text.word == NUMBER;
            boolean power = text.number > 0 && (text.number & text.number - 1) == 0;
            if (isNumber && hashed && !power) {
                text.fail(BAD_NUMBER, place);
            }
            table.room = text.within(1, hashed ? MOST_BUCKETS : MOST_ROOM);
            if (hashed) {
                text.expect(WAYS);
                table.ways = text.within(1, MOST_WAYS);
                text.expect(STASH);
                table.stash = text.within(0, MOST_STASH);
            }
            text.expect(';');
        }

        void openControl() {
            text.expect(CONTROL);
            text.expect('{');
            blockIf[1] = NONE;
            blockBranch[1] = NONE;
            openBlocks = 1;
        }

        /** Reads what comes next in the block that stands open: a step of it or its end. */
        void inBlock() {
            boolean isIf = text.word == IF;
            boolean isApply = text.word == APPLY;
            if (text.word == '}') {
                closeBlock();
                return;
            }
            if (!isIf && !isApply && !isStatement()) {
                text.refuse();
            }
            if (steps.made >= STEPS) {
                text.fail(ONE_TOO_MANY, text.wordAt);
            }
            int kind = isIf ? IF_STEP : isApply ? APPLY_STEP : STATEMENT_STEP;
            int step = steps.add(kind, blockIf[openBlocks], blockBranch[openBlocks]);
            if (isIf) {
                openIf(step);
            } else if (isApply) {
                apply(step);
            } else {
                steps.deed[step] = statement(NONE);
            }
        }

        private void closeBlock() {
            text.advance();
            if (blockBranch[openBlocks] != 1 || text.word != ELSE) {
                openBlocks--;
                return;
            }
            text.advance();
            text.expect('{');
            blockBranch[openBlocks] = 0;
        }

        private void openIf(int step) {
            text.advance();
            steps.first[step] = program.nodes.made;
            int root = formulas.whole(NONE);
            steps.root[step] = root;
            formulas.mustFit(root, 1);
            if (text.word == '{' && openBlocks >= BLOCKS) {
                text.fail(ONE_TOO_MANY, text.wordAt);
            }
            text.expect('{');
            openBlocks++;
            blockIf[openBlocks] = step;
            blockBranch[openBlocks] = 1;
        }

        private void apply(int step) {
            text.advance();
            int place = text.wordAt;
            int table = text.known(TABLE);
            if (steps.applying(table) != NONE) {
                text.fail(BROKEN_RULE, place);
            }
            steps.table[step] = table;
            text.expect(';');
        }

        void emit() {
            text.expect(EMIT);
            boolean more = true;
            for (int i = 0; i <= INSTANCES && more; i++) {
                int place = text.wordAt;
                int instance = text.known(INSTANCE);
                for (int j = 0; j < program.emits; j++) {
                    if (program.emitted[j] == instance) {
                        text.fail(BROKEN_RULE, place);
                    }
                }
                program.emitted[program.emits] = instance;
                program.emits++;
                more = goesOnList();
            }
            text.expect(';');
        }

        /** What is told when all is read. */
        void close() {
            if (text.word != TEXT_END) {
                text.refuse();
            }
            int missing = states.missing();
            if (missing != NONE) {
                text.fail(NOT_THERE, missing);
            }
            int circling = states.circling();
            if (circling != NONE) {
                text.fail(BROKEN_RULE, circling);
            }
        }
    }

    /** A packet, or an entry that comes, changes or goes, from the line to behind the last stage. */
    private static final class Operation {
        final byte[] bytes = new byte[OUT_BYTES];
        final long[] slots = new long[SLOTS];
        final int[] did = new int[STEPS];
        final long[] keyValue = new long[KEYS];
        final long[] keyMask = new long[KEYS];
        final long[] data = new long[PARAMETERS];
        int kind;
        int length;
        int port;
        /** How many bytes the states have read; behind them is the PAYLOAD. */
        int extracted;
        int table;
        int priority;
        int action;
        int outcome;
        int cycle;

        void becomePacket(byte[] from, int many, int by) {
            kind = PACKET;
            System.arraycopy(from, 0, bytes, 0, many);
            length = many;
            port = by;
        }

        void becomeEntry(int entryKind, int inTable, int entryPriority, int entryAction) {
            kind = entryKind;
            table = inTable;
            priority = entryPriority;
            action = entryAction;
        }

        void holdRows(long[] values, long[] masks, long[] words) {
            System.arraycopy(values, 0, keyValue, 0, KEYS);
            System.arraycopy(masks, 0, keyMask, 0, KEYS);
            System.arraycopy(words, 0, data, 0, PARAMETERS);
        }

        boolean isSent() {
            return kind == PACKET && outcome == DONE;
        }

        /** Comes to the first stage: a packet is read by the states. */
        void enter(Program program) {
            outcome = DONE;
            if (kind != PACKET) {
                return;
            }
            Arrays.fill(slots, 0);
            Arrays.fill(did, NONE);
            slots[META_SLOTS + IN_PORT] = port & PORT_ONES;
            slots[META_SLOTS + LENGTH] = length;
            extracted = 0;
            int state = program.states.made > 0 ? 0 : ACCEPT;
            for (int i = 0; i < STATE_MOVES && state < STATES; i++) {
                state = pass(program, state);
            }
            outcome = state == ACCEPT ? DONE : REJECTED;
        }

        private int pass(Program program, int state) {
            States states = program.states;
            for (int i = 0; i < states.extracts[state]; i++) {
                if (!extract(program, states.extracted[state * EXTRACTS + i])) {
                    return REJECT;
                }
            }
            int root = states.root[state];
            long value = root == NONE ? 0 : program.nodes.valueOf(states.first[state], root, slots, data);
            return states.goalOf(state, value);
        }

        private boolean extract(Program program, int instance) {
            int slot = instance * INSTANCE_SLOTS;
            int many = program.headerBits(program.instanceHeader[instance]) / 8;
            if (slots[slot] != 0 || extracted + many > length) {
                return false;
            }
            slots[slot] = 1;
            int bit = extracted * 8;
            for (int f = 0; f < FIELDS; f++) {
                int width = program.widthOfField(instance, f);
                long value = 0;
                for (int i = 0; i < width; i++) {
                    value = value << 1 | bytes[bit / 8] >>> 7 - bit % 8 & 1;
                    bit++;
                }
                slots[slot + 1 + f] = value;
            }
            extracted += many;
            return true;
        }

        /** Does what is to be done in a stage. */
        void work(Program program, int stage, long[] words) {
            Steps steps = program.steps;
            if (kind != PACKET) {
                int step = steps.applying(table);
                if (stage == (step == NONE ? 0 : steps.home[step])) {
                    outcome = program.tables[table].serve(this, program.actions);
                }
                return;
            }
            for (int s = 0; s < steps.made && outcome != REJECTED; s++) {
                int parent = steps.parent[s];
                if (steps.home[s] == stage && (parent == NONE || did[parent] == steps.branch[s])) {
                    did[s] = doStep(program, s, words);
                }
            }
        }

        private int doStep(Program program, int step, long[] words) {
            Steps steps = program.steps;
            if (steps.kind[step] == IF_STEP) {
                return (int) program.nodes.valueOf(steps.first[step], steps.root[step], slots, data);
            }
            if (steps.kind[step] == APPLY_STEP) {
                return apply(program, program.tables[steps.table[step]], words);
            }
            doDeed(program, steps.deed[step], words);
            return 0;
        }

        /** A packet has no entry of its own, so that its rows of keys and data serve the tables that it comes to. */
        private int apply(Program program, Table applied, long[] words) {
            for (int i = 0; i < applied.keys; i++) {
                keyValue[i] = program.nodes.valueOf(applied.keyFirst[i], applied.keyRoot[i], slots, data);
            }
            int entry = applied.match(keyValue);
            boolean found = entry != NONE;
            int chosen = found ? applied.chosen[entry] : applied.defaultAction;
            int from = found ? entry * PARAMETERS : 0;
            System.arraycopy(found ? applied.data : applied.defaultData, from, data, 0, PARAMETERS);
            Actions actions = program.actions;
            for (int i = 0; i < actions.deedCount[chosen]; i++) {
                doDeed(program, actions.firstDeed[chosen] + i, words);
            }
            return chosen;
        }

        private void doDeed(Program program, int deed, long[] words) {
            Actions actions = program.actions;
            Nodes nodes = program.nodes;
            int slot = actions.deedSlot[deed];
            int array = actions.deedArray[deed];
            int at = NONE;
            if (array != NONE) {
                long index = nodes.valueOf(actions.indexFirst[deed], actions.indexRoot[deed], slots, data);
                at = array * ARRAY_WORDS + remainder(index, program.arraySize[array]);
            }
            long value = 0;
            if (actions.valueRoot[deed] != NONE) {
                value = nodes.valueOf(actions.valueFirst[deed], actions.valueRoot[deed], slots, data);
            }
            switch (actions.deedKind[deed]) {
                case PUT: put(slot, value); break;
                case LOAD: put(slot, words[at]); break;
                case STORE: words[at] = value; break;
                case TAKE: takeAway(slot); break;
                default: slots[slot] = 1;
            }
        }

        /** Fields of an instance that is not valid stay 0, so that nothing else need ask whether it is. */
        private void put(int slot, long value) {
            if (slot >= META_SLOTS || slots[slot - slot % INSTANCE_SLOTS] != 0) {
                slots[slot] = value;
            }
        }

        private void takeAway(int validitySlot) {
            for (int i = 0; i < INSTANCE_SLOTS; i++) {
                slots[validitySlot + i] = 0;
            }
        }

        /** The remainder without sign: a half is never below 0. */
        private static int remainder(long index, int size) {
            if (size < 1) {
                return 0;
            }
            return (int) (((index >>> 1) % size * 2 + (index & 1)) % size);
        }

        /** Goes out: what is emitted takes the place of what came. */
        void leave(Program program, int now) {
            cycle = now;
            if (kind == PACKET && outcome == DONE && slots[DROPPED_SLOT] != 0) {
                outcome = DROPPED;
            }
            if (!isSent()) {
                return;
            }
            int many = 0;
            for (int i = 0; i < program.emits; i++) {
                int instance = program.emitted[i];
                boolean valid = slots[instance * INSTANCE_SLOTS] != 0;
                many += valid ? program.headerBits(program.instanceHeader[instance]) / 8 : 0;
            }
            System.arraycopy(bytes, extracted, bytes, many, length - extracted);
            length = many + length - extracted;
            for (int i = 0; i < many; i++) {
                bytes[i] = 0;
            }
            int bit = 0;
            for (int i = 0; i < program.emits; i++) {
                bit = write(program, program.emitted[i], bit);
            }
        }

        /** Writes an instance's fields from a bit on, if it is valid: the bit behind. */
        private int write(Program program, int instance, int from) {
            int slot = instance * INSTANCE_SLOTS;
            int bit = from;
            for (int f = 0; slots[slot] != 0 && f < FIELDS; f++) {
                int width = program.widthOfField(instance, f);
                for (int i = width - 1; i >= 0; i--) {
                    bytes[bit / 8] |= (byte) ((slots[slot + 1 + f] >>> i & 1) << 7 - bit % 8);
                    bit++;
                }
            }
            return bit;
        }
    }

    /** The line, the stages, and those that went out of them; all keep the order in which they came. */
    private static final class Pipe {
        final Program program;
        final Operation[] operations = new Operation[OPERATIONS];
        /** Null where a stage is empty. */
        final Operation[] inStage = new Operation[STAGES];
        final long[] words = new long[ARRAYS * ARRAY_WORDS];
        int came;
        int entered;
        int wentOut;
        int cycles;

        Pipe(Program laid) {
            program = laid;
        }

        void clear() {
            came = 0;
            entered = 0;
            wentOut = 0;
            cycles = 0;
            Arrays.fill(words, 0);
            for (int g = 0; g < STAGES; g++) {
                inStage[g] = null;
            }
        }

        int inLine() {
            return came - entered;
        }

        int inStages() {
            return entered - wentOut;
        }

        /** The row of one that comes to the line. */
        Operation comer() {
            int row = came % OPERATIONS;
            if (operations[row] == null) {
                operations[row] = new Operation();
            }
            came++;
            return operations[row];
        }

        /** One of the latest that are out; null without. */
        Operation goneOut(int number) {
            boolean kept = number >= 0 && number < wentOut && number >= wentOut - KEPT_OUT;
            return kept ? operations[number % OPERATIONS] : null;
        }

        void cycle() {
            int last = program.steps.stages - 1;
            Operation leaving = inStage[last];
            if (leaving != null) {
                leaving.leave(program, cycles);
                wentOut++;
            }
            for (int g = last; g > 0; g--) {
                inStage[g] = inStage[g - 1];
            }
            Operation entering = entered < came ? operations[entered % OPERATIONS] : null;
            inStage[0] = entering;
            if (entering != null) {
                entering.enter(program);
                entered++;
            }
            for (int g = 0; g <= last; g++) {
                Operation there = inStage[g];
                if (there != null) {
                    there.work(program, g, words);
                }
            }
            cycles++;
        }
    }
}
