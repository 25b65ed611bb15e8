import java.util.Arrays;

/**
 * A reader of machine texts: registers, memories, helpers and instructions with their bits and what
 * they do, read to statements and expressions whose widths are worked out, checked, and printed
 * again as short as can be.
 */
public final class MachineText {
    public static final int NONE = -1;

    private static final int LIMIT = 8192;
    private static final int CHUNK = 16;
    private static final int DEEPEST = 80;
    private static final int WIDEST = 32;
    private static final int BYTE = 255;

    // The most that LIMIT bytes have room for: "ins a{}", "a=b;", "f()", and a name with a sign.
    private static final int MOST_STATEMENTS = LIMIT / 7 + 1;
    private static final int MOST_CLAIMS = LIMIT / 4 + 1;
    private static final int MOST_CALLS = LIMIT / 3 + 1;
    private static final int MOST_NAMES = LIMIT / 2 + 16;
    // Each byte of a text is printed with at most one blank or line end beside it.
    private static final int MOST_PRINTED = 2 * LIMIT;

    // Faults.
    private static final int LEXEME_FAULT = 1;
    private static final int GRAMMAR_FAULT = 2;
    private static final int DEEP_FAULT = 3;
    private static final int NUMBER_FAULT = 4;
    private static final int TWICE_FAULT = 5;
    private static final int UNKNOWN_FAULT = 6;
    private static final int MEANING_FAULT = 7;
    private static final int RING_FAULT = 8;
    private static final int WIDTH_FAULT = 9;
    private static final int BITS_FAULT = 10;

    // Kinds of lexemes; a sign of one byte has that byte for its kind.
    private static final int END = 0;
    private static final int NAME = 1;
    private static final int NUMBER = 2;
    private static final int FIRST_WORD = 16;
    private static final int WORD = 16;
    private static final int REG = 17;
    private static final int MEM = 18;
    private static final int DEF = 19;
    private static final int INS = 20;
    private static final int IF = 21;
    private static final int ELSE = 22;
    private static final int REP = 23;
    private static final int RAISE = 24;
    private static final int SX = 25;
    private static final int ZX = 26;
    private static final int CAT = 27;
    private static final int EQUAL_SIGN = 128;
    private static final int DIFFER_SIGN = 129;
    private static final int LEFT_SIGN = 130;
    private static final int RIGHT_SIGN = 131;

    private static final String WORDS = "word reg mem def ins if else rep raise sx zx cat ";
    private static final int WORD_COUNT = 12;
    private static final String SIGNS = ";,.=(){}[]:?+-*&|^~<";

    // How a lexeme is printed.
    private static final int PLAIN = 0;
    private static final int SPACED = 1;
    private static final int DROPPED = 2;
    private static final int VERBATIM = 3;

    // Kinds of statements.
    private static final int REGISTER = 0;
    private static final int MEMORY = 1;
    private static final int HELPER = 2;
    private static final int INSTRUCTION = 3;

    // Kinds of nodes; GROUP is an operand in brackets, which is no node.
    private static final int VALUE = 0;
    private static final int NAMED = 1;
    private static final int ELEMENT = 2;
    private static final int CALL = 3;
    private static final int SIGN_EXTENDED = 4;
    private static final int ZERO_EXTENDED = 5;
    private static final int JOINED = 6;
    private static final int SLICE = 7;
    private static final int INVERTED = 8;
    private static final int NEGATED = 9;
    private static final int TIMES = 10;
    private static final int PLUS = 11;
    private static final int MINUS = 12;
    private static final int SHIFT_LEFT = 13;
    private static final int SHIFT_RIGHT = 14;
    private static final int AND = 15;
    private static final int XOR = 16;
    private static final int OR = 17;
    private static final int EQUAL = 18;
    private static final int DIFFERENT = 19;
    private static final int LESS = 20;
    private static final int CHOICE = 21;
    private static final int GROUP = 22;

    // How tightly each kind of node binds.
    private static final int[] LEVELS = {
        10, 10, 10, 10, 10, 10, 10, 9, 8, 8, 7, 6, 6, 5, 5, 4, 3, 2, 1, 1, 1, 0
    };
    private static final int PRIMARY_LEVEL = 10;
    private static final int SLICE_LEVEL = 9;
    private static final int PREFIX_LEVEL = 8;
    private static final int COMPARE_LEVEL = 1;
    private static final int CHOICE_LEVEL = 0;

    private final byte[] text = new byte[LIMIT];
    private int length;
    private boolean known;
    private final Faults faults;
    private final Names names;
    private final Lexemes lexemes;
    private final Nodes nodes;
    private final Statements statements;
    private final Claims claims;
    private final Expressions expressions;
    private final Reader reader;
    private final Checker checker;
    private final Rings rings;
    private final Printer printer;

    public MachineText() {
        faults = new Faults();
        names = new Names();
        lexemes = new Lexemes(faults, names);
        nodes = new Nodes();
        statements = new Statements();
        claims = new Claims();
        expressions = new Expressions(faults, names, lexemes, nodes);
        reader = new Reader(faults, names, lexemes, nodes, statements, claims, expressions);
        checker = new Checker(faults, names, lexemes, nodes, statements, claims);
        rings = new Rings(faults, names, lexemes, statements);
        printer = new Printer(lexemes);
    }

    public int feed(int a, int b, int c, int d) throws IllegalStateException {
        if (length + CHUNK > LIMIT) {
            throw new IllegalStateException("the text would be too long");
        }
        putFour(a);
        putFour(b);
        putFour(c);
        putFour(d);
        return length;
    }

    public int end(int n) throws IllegalArgumentException, IllegalStateException {
        if (n < 0 || n > CHUNK) {
            throw new IllegalArgumentException("not 0 .. 16");
        }
        if (length < CHUNK) {
            throw new IllegalStateException("less than sixteen bytes");
        }
        length -= CHUNK - n;
        return length;
    }

    public int read() throws IllegalArgumentException {
        forget();
        if (lexemes.cut(text, length)) {
            parse();
            check();
        }
        length = 0;
        known = faults.found() == 0;
        if (!known) {
            lexemes.clear();
            nodes.clear();
            statements.clear();
            throw new IllegalArgumentException("the text has a fault");
        }
        return statements.size;
    }

    public int fault(int what) throws IndexOutOfBoundsException {
        if (what == 0) {
            return faults.found();
        }
        if (what == 1) {
            return faults.foundPlace();
        }
        throw new IndexOutOfBoundsException("a fault has a number and a place");
    }

    public int statement(int k, int what) throws IndexOutOfBoundsException {
        if (!statements.has(k) || what < 0 || what > 4) {
            throw new IndexOutOfBoundsException("no such statement or what");
        }
        switch (what) {
            case 0:
                return statements.kindOf(k);
            case 1:
                return statements.widthOf(k);
            case 2:
                return statements.amountOf(k);
            case 3:
                return statements.actionsOf(k);
            default:
                int end = statements.has(k + 1) ? statements.nodesBefore(k + 1) : nodes.size;
                return end - statements.nodesBefore(k);
        }
    }

    public long bits(int k, int what) throws IndexOutOfBoundsException, IllegalStateException {
        if (!statements.has(k) || what < 0 || what > 1) {
            throw new IndexOutOfBoundsException("no such statement or what");
        }
        if (statements.kindOf(k) != INSTRUCTION) {
            throw new IllegalStateException("no instruction");
        }
        return lexemes.toldBits(statements.headOf(k) + 1, what == 0);
    }

    public int node(int k, int what) throws IndexOutOfBoundsException {
        if (!nodes.has(k) || what < -1 || what > 6) {
            throw new IndexOutOfBoundsException("no such node or what");
        }
        switch (what) {
            case -1:
                return nodes.numberOf(k);
            case 0:
                return nodes.kindOf(k);
            case 1:
                return nodes.widthOf(k);
            case 2:
                return nodes.partsOf(k);
            default:
                return nodes.partOf(k, what - 3);
        }
    }

    public int ring(int k) throws IndexOutOfBoundsException {
        if (!rings.has(k)) {
            throw new IndexOutOfBoundsException("no such helper in a ring");
        }
        return rings.placeOf(k);
    }

    public int print() throws IllegalStateException {
        if (!known) {
            throw new IllegalStateException("nothing is read");
        }
        printer.write();
        return printer.size;
    }

    public int out(int i) throws IndexOutOfBoundsException {
        if (!printer.has(i)) {
            throw new IndexOutOfBoundsException("no such byte printed");
        }
        return printer.byteAt(i);
    }

    public int again() throws IllegalStateException {
        if (printer.size > LIMIT) {
            throw new IllegalStateException("too long for a text");
        }
        length = printer.copyTo(text);
        return length;
    }

    public int count(int what) {
        switch (what) {
            case 0:
                return length;
            case 1:
                return lexemes.size;
            case 2:
                return statements.size;
            case 3:
                return nodes.size;
            case 4:
                return printer.size;
            default:
                return NONE;
        }
    }

    private void putFour(int bytes) {
        for (int shift = 24; shift >= 0; shift -= 8) {
            if (length < text.length) {
                text[length] = (byte) (bytes >>> shift);
                length++;
            }
        }
    }

    private void forget() {
        faults.clear();
        names.clear();
        lexemes.clear();
        nodes.clear();
        statements.clear();
        claims.clear();
        expressions.clear();
        reader.clear();
        rings.clear();
    }

    /** Each stage asks only what the stages before it left sound. */
    private void check() {
        int found = faults.found();
        if (found == 0 || found > DEEP_FAULT) {
            checker.checkNames();
        }
        if (faults.found() == 0) {
            rings.search();
        }
        if (faults.found() == 0) {
            checker.checkWidths();
        }
        if (faults.found() == 0) {
            checker.checkInstructions();
        }
    }

    /** The parser throws at the lexeme that does not fit, and leaves the cursor on it. */
    private void parse() {
        try {
            reader.wordLine();
            for (int turn = 0; turn <= LIMIT && !reader.isDone(); turn++) {
                if (reader.isInBody()) {
                    reader.action();
                } else {
                    reader.declaration();
                }
            }
        } catch (IllegalArgumentException e) {
            faults.note(GRAMMAR_FAULT, lexemes.placeAt(lexemes.at));
        } catch (IllegalStateException e) {
            faults.note(DEEP_FAULT, lexemes.placeAt(lexemes.at));
        }
    }

    /** The first place of each kind of fault. */
    private static final class Faults {
        private final int[] places = new int[BITS_FAULT + 1];

        Faults() {
            Arrays.fill(places, NONE);
        }

        void clear() {
            Arrays.fill(places, NONE);
        }

        void note(int number, int place) {
            if (number <= 0 || number >= places.length) {
                return;
            }
            if (places[number] == NONE || place < places[number]) {
                places[number] = place;
            }
        }

        int found() {
            for (int number = 1; number < places.length; number++) {
                if (places[number] != NONE) {
                    return number;
                }
            }
            return 0;
        }

        int foundPlace() {
            for (int number = 1; number < places.length; number++) {
                if (places[number] != NONE) {
                    return places[number];
                }
            }
            return 0;
        }
    }

    /** The names of a text, each with one id; the words have the first ids. */
    private static final class Names {
        private static final int SLOTS = 8192;
        private static final long MIXER = 0x9E3779B97F4A7C15L;
        private static final int MIXED_SHIFT = 51;

        // A slot holds an id and 1, so that an unused one is 0; spots are the ids' slots.
        private final int[] slots = new int[SLOTS];
        private final int[] spots = new int[MOST_NAMES];
        private final long[] uppers = new long[MOST_NAMES];
        private final long[] lowers = new long[MOST_NAMES];
        private final int[] owners = new int[MOST_NAMES];
        private final int[] locals = new int[MOST_NAMES];
        private final int[] bound = new int[MOST_NAMES];
        private int size;
        private int boundSize;
        private long upper;
        private long lower;

        /** The words stay. */
        void clear() {
            for (int id = WORD_COUNT; id < size && id < MOST_NAMES; id++) {
                int spot = spots[id];
                if (spot >= 0 && spot < SLOTS) {
                    slots[spot] = 0;
                }
            }
            size = Math.min(size, WORD_COUNT);
            release(0);
            if (size == 0) {
                addWords();
            }
        }

        private void addWords() {
            for (int i = 0; i < WORDS.length(); i++) {
                if (WORDS.charAt(i) == ' ') {
                    spelled();
                } else {
                    spell(WORDS.charAt(i));
                }
            }
        }

        /** Sixteen bytes fit, which is as long as a name can be. */
        void spell(int letter) {
            upper = upper << 8 | lower >>> 56;
            lower = lower << 8 | letter;
        }

        /** The id of what was spelled. */
        int spelled() {
            int found = idOf(upper, lower);
            upper = 0;
            lower = 0;
            return found;
        }

        private int idOf(long high, long low) {
            int slot = (int) ((high * 31 + low) * MIXER >>> MIXED_SHIFT) & (SLOTS - 1);
            for (int turn = 0; turn < SLOTS; turn++) {
                int id = slots[slot] - 1;
                if (id < 0) {
                    return added(high, low, slot);
                }
                if (id < size && uppers[id] == high && lowers[id] == low) {
                    return id;
                }
                slot = (slot + 1) & (SLOTS - 1);
            }
            return NONE;
        }

        private int added(long high, long low, int slot) {
            if (size >= MOST_NAMES || slot < 0 || slot >= SLOTS) {
                return NONE;
            }
            spots[size] = slot;
            uppers[size] = high;
            lowers[size] = low;
            owners[size] = NONE;
            locals[size] = 0;
            size++;
            slots[slot] = size;
            return size - 1;
        }

        /** The statement that has the name, NONE without. */
        int ownerOf(int id) {
            return id >= 0 && id < size ? owners[id] : NONE;
        }

        void own(int id, int statement) {
            if (id >= 0 && id < size) {
                owners[id] = statement;
            }
        }

        /** The width of the parameter, part or rep that has the name here, 0 without. */
        int localOf(int id) {
            return id >= 0 && id < size ? locals[id] : 0;
        }

        void bind(int id, int width) {
            if (id >= 0 && id < size && boundSize < MOST_NAMES) {
                locals[id] = Math.max(1, width);
                bound[boundSize] = id;
                boundSize++;
            }
        }

        /** Unbinds what was bound since there were as many as mark. */
        void release(int mark) {
            while (boundSize > mark && boundSize > 0) {
                boundSize--;
                int id = bound[boundSize];
                if (id >= 0 && id < MOST_NAMES) {
                    locals[id] = 0;
                }
            }
        }
    }

    /** The lexemes of a text, with a cursor on the one that is to be read next. */
    private static final class Lexemes {
        private static final int LONGEST_NAME = 16;
        private static final int LONGEST_NUMBER = 32;
        private static final int LONGEST_HEX = 8;
        // Above every bound, so that longer numbers need not be told apart.
        private static final long HUGE = 1L << 40;
        private static final int HUGE_INT = 1 << 30;

        private final Faults faults;
        private final Names names;
        private final byte[] source = new byte[LIMIT];
        private final int[] kinds = new int[LIMIT + 1];
        private final int[] places = new int[LIMIT + 1];
        private final int[] extents = new int[LIMIT + 1];
        private final long[] values = new long[LIMIT + 1];
        private final int[] styles = new int[LIMIT + 1];
        private int length;
        private int size;
        private int at;
        private int here;

        Lexemes(Faults faults, Names names) {
            this.faults = faults;
            this.names = names;
        }

        void clear() {
            size = 0;
            at = 0;
            here = END;
        }

        /** Cuts the whole text: false, when there is a fault in it. */
        boolean cut(byte[] text, int bytes) {
            length = Math.max(0, Math.min(bytes, Math.min(text.length, LIMIT)));
            System.arraycopy(text, 0, source, 0, length);
            size = 0;
            int from = behindWhite(0);
            for (int turn = 0; from < length && turn < LIMIT; turn++) {
                int to = cutOne(from);
                if (to <= from) {
                    faults.note(LEXEME_FAULT, from);
                    return false;
                }
                from = behindWhite(to);
            }
            add(END, length, length, 0);
            size--;
            at = 0;
            here = kindAt(0);
            return true;
        }

        private int behindWhite(int from) {
            boolean comment = false;
            for (int i = from; i < length; i++) {
                int c = byteAt(i);
                boolean white = c == 9 || c == 10 || c == 13 || c == 32;
                comment = c == '#' || comment && c != 10;
                if (!white && !comment) {
                    return i;
                }
            }
            return length;
        }

        /** Adds the lexeme that begins there: the place behind it, NONE when there is none. */
        private int cutOne(int from) {
            int c = byteAt(from);
            if (isLetter(c)) {
                return cutName(from);
            }
            if (!isDigit(c)) {
                return cutSign(from);
            }
            boolean hex = c == '0' && byteAt(from + 1) == 'x' && hexDigit(byteAt(from + 2)) != NONE;
            return hex ? cutHex(from) : cutDecimal(from);
        }

        private int cutName(int from) {
            int to = from;
            while (to < length && (isLetter(byteAt(to)) || isDigit(byteAt(to)))) {
                names.spell(byteAt(to));
                to++;
            }
            // A name that is too long was spelled in vain; its id is never asked for.
            int id = names.spelled();
            if (to - from > LONGEST_NAME) {
                return NONE;
            }
            add(id >= 0 && id < WORD_COUNT ? FIRST_WORD + id : NAME, from, to, id);
            return to;
        }

        private int cutDecimal(int from) {
            int to = from;
            long value = 0;
            while (to < length && isDigit(byteAt(to))) {
                value = Math.min(value * 10 + (byteAt(to) - '0'), HUGE);
                to++;
            }
            if (to - from > LONGEST_NUMBER) {
                return NONE;
            }
            add(NUMBER, from, to, value);
            return to;
        }

        private int cutHex(int from) {
            int to = from + 2;
            long value = 0;
            while (to < length && hexDigit(byteAt(to)) != NONE) {
                value = Math.min(value * 16 + hexDigit(byteAt(to)), HUGE);
                to++;
            }
            if (to - from > LONGEST_HEX + 2) {
                return NONE;
            }
            add(NUMBER, from, to, value);
            return to;
        }

        private int cutSign(int from) {
            int c = byteAt(from);
            int pair = pairOf(c, byteAt(from + 1));
            if (pair != NONE) {
                add(pair, from, from + 2, 0);
                return from + 2;
            }
            if (SIGNS.indexOf((char) c) < 0) {
                return NONE;
            }
            add(c, from, from + 1, 0);
            return from + 1;
        }

        private static int pairOf(int c, int d) {
            if (d == '=') {
                return c == '=' ? EQUAL_SIGN : c == '!' ? DIFFER_SIGN : NONE;
            }
            if (c == d) {
                return c == '<' ? LEFT_SIGN : c == '>' ? RIGHT_SIGN : NONE;
            }
            return NONE;
        }

        private static boolean isLetter(int c) {
            return c >= 'a' && c <= 'z' || c >= 'A' && c <= 'Z' || c == '_';
        }

        private static boolean isDigit(int c) {
            return c >= '0' && c <= '9';
        }

        private static int hexDigit(int c) {
            if (isDigit(c)) {
                return c - '0';
            }
            return c >= 'a' && c <= 'f' ? c - 'a' + 10 : NONE;
        }

        private void add(int kind, int from, int to, long value) {
            if (size >= kinds.length) {
                return;
            }
            kinds[size] = kind;
            places[size] = from;
            extents[size] = to - from;
            values[size] = value;
            styles[size] = PLAIN;
            size++;
        }

        int byteAt(int i) {
            return i >= 0 && i < length ? source[i] & BYTE : NONE;
        }

        int kindAt(int i) {
            return i >= 0 && i < size ? kinds[i] : END;
        }

        /** The place of a lexeme, or of the text's end. */
        int placeAt(int i) {
            return i >= 0 && i <= size && i < places.length ? places[i] : NONE;
        }

        int extentAt(int i) {
            return i >= 0 && i < size ? extents[i] : 0;
        }

        long valueAt(int i) {
            return i >= 0 && i < size ? values[i] : 0;
        }

        /** A name's id. */
        int idAt(int i) {
            return i >= 0 && i < size && kinds[i] == NAME ? (int) values[i] : NONE;
        }

        int styleAt(int i) {
            return i >= 0 && i < size ? styles[i] : PLAIN;
        }

        void style(int i, int style) {
            if (i >= 0 && i < size) {
                styles[i] = style;
            }
        }

        void next() {
            if (at < size) {
                at++;
            }
            here = at < size ? kinds[at] : END;
        }

        void expect(int kind) {
            if (here != kind) {
                throw new IllegalArgumentException("this lexeme does not fit");
            }
            next();
        }

        /** Reads a NUMBER with its bounds. */
        int number(int low, int high) {
            if (here != NUMBER) {
                throw new IllegalArgumentException("a number is due");
            }
            long value = valueAt(at);
            if (value < low || value > high) {
                faults.note(NUMBER_FAULT, placeAt(at));
            }
            next();
            return (int) Math.min(value, HUGE_INT);
        }

        /** Reads a NAME: its id. */
        int name() {
            if (here != NAME) {
                throw new IllegalArgumentException("a name is due");
            }
            int id = idAt(at);
            next();
            return id;
        }

        boolean isBinary(int i) {
            int from = placeAt(i);
            for (int k = 0; k < extentAt(i); k++) {
                int c = byteAt(from + k);
                if (c != '0' && c != '1') {
                    return false;
                }
            }
            return true;
        }

        /** Of the parts from there on: the bits that are 1, or those that are told at all. */
        long toldBits(int from, boolean onesAlone) {
            long told = 0;
            for (int i = from; i < size && kindAt(i) != '{'; i++) {
                if (kindAt(i) != NUMBER) {
                    continue;
                }
                if (kindAt(i - 1) == ':') {
                    told <<= valueAt(i);
                    continue;
                }
                for (int k = 0; k < extentAt(i); k++) {
                    boolean one = byteAt(placeAt(i) + k) == '1';
                    told = told << 1 | (one || !onesAlone ? 1 : 0);
                }
            }
            return told;
        }
    }

    /** The expressions' nodes, each behind those that are in it. */
    private static final class Nodes {
        private final int[] kinds = new int[LIMIT];
        private final int[] widths = new int[LIMIT];
        private final int[] numbers = new int[LIMIT];
        private final int[] starts = new int[LIMIT];
        private final int[] firsts = new int[LIMIT];
        private final int[] followers = new int[LIMIT];
        private final int[] parts = new int[LIMIT];
        private int size;

        void clear() {
            size = 0;
        }

        boolean has(int k) {
            return k >= 0 && k < size;
        }

        /** Start is the lexeme that it begins with; the parts are linked already. */
        int add(int kind, int start, int first, int count) {
            if (size >= LIMIT) {
                return NONE;
            }
            kinds[size] = kind;
            widths[size] = 0;
            numbers[size] = NONE;
            starts[size] = start;
            firsts[size] = first;
            followers[size] = NONE;
            parts[size] = count;
            size++;
            return size - 1;
        }

        void link(int k, int follower) {
            if (has(k)) {
                followers[k] = follower;
            }
        }

        void widen(int k, int width) {
            if (has(k)) {
                widths[k] = width;
            }
        }

        void enumerate(int k, int number) {
            if (has(k)) {
                numbers[k] = number;
            }
        }

        int kindOf(int k) {
            return has(k) ? kinds[k] : NONE;
        }

        /** Until widths are checked 0 for those that are not told in the text; then 0 for wrong ones. */
        int widthOf(int k) {
            return has(k) ? widths[k] : 0;
        }

        int numberOf(int k) {
            return has(k) ? numbers[k] : NONE;
        }

        int startOf(int k) {
            return has(k) ? starts[k] : NONE;
        }

        int partsOf(int k) {
            return has(k) ? parts[k] : 0;
        }

        int firstOf(int k) {
            return has(k) ? firsts[k] : NONE;
        }

        int followerOf(int k) {
            return has(k) ? followers[k] : NONE;
        }

        int partOf(int k, int i) {
            int part = firstOf(k);
            for (int turn = 0; turn < i; turn++) {
                part = followerOf(part);
            }
            return part;
        }
    }

    /** The statements, and the word before them. */
    private static final class Statements {
        private final int[] kinds = new int[MOST_STATEMENTS];
        private final int[] heads = new int[MOST_STATEMENTS];
        private final int[] widths = new int[MOST_STATEMENTS];
        private final int[] amounts = new int[MOST_STATEMENTS];
        private final int[] actions = new int[MOST_STATEMENTS];
        private final int[] nodes = new int[MOST_STATEMENTS];
        private int size;
        private int word;

        void clear() {
            size = 0;
            word = 0;
        }

        boolean has(int k) {
            return k >= 0 && k < size;
        }

        /** Head is the lexeme of its NAME; nodes are those of the statements before it. */
        int add(int kind, int head, int nodesBefore) {
            if (size >= MOST_STATEMENTS) {
                return NONE;
            }
            kinds[size] = kind;
            heads[size] = head;
            widths[size] = 0;
            amounts[size] = 0;
            actions[size] = 0;
            nodes[size] = nodesBefore;
            size++;
            return size - 1;
        }

        /** The last one has so many more registers, address bits, parameters or parts. */
        void enlarge(int amount) {
            if (has(size - 1)) {
                amounts[size - 1] += amount;
            }
        }

        /** The last one is so much wider. */
        void widen(int width) {
            if (has(size - 1)) {
                widths[size - 1] += width;
            }
        }

        void addAction() {
            if (has(size - 1)) {
                actions[size - 1]++;
            }
        }

        int kindOf(int k) {
            return has(k) ? kinds[k] : NONE;
        }

        int headOf(int k) {
            return has(k) ? heads[k] : NONE;
        }

        /** Of an instruction the bits that its parts have together. */
        int widthOf(int k) {
            return has(k) ? widths[k] : 0;
        }

        int amountOf(int k) {
            return has(k) ? amounts[k] : 0;
        }

        int actionsOf(int k) {
            return has(k) ? actions[k] : 0;
        }

        int nodesBefore(int k) {
            return has(k) ? nodes[k] : 0;
        }
    }

    /** What actions and helpers want of the expressions in them. */
    private static final class Claims {
        private final int[] lexemes = new int[MOST_CLAIMS];
        private final int[] indexes = new int[MOST_CLAIMS];
        private final int[] values = new int[MOST_CLAIMS];
        private final int[] wanted = new int[MOST_CLAIMS];
        private int size;

        void clear() {
            size = 0;
        }

        boolean has(int k) {
            return k >= 0 && k < size;
        }

        /** A value set to the NAME at the lexeme, with an index or NONE. */
        void addTarget(int lexeme, int index, int value) {
            add(lexeme, index, value, 0);
        }

        /** An expression that begins with the lexeme and has a width told. */
        void addWidth(int lexeme, int value, int width) {
            add(lexeme, NONE, value, Math.max(1, width));
        }

        private void add(int lexeme, int index, int value, int width) {
            if (size < MOST_CLAIMS) {
                lexemes[size] = lexeme;
                indexes[size] = index;
                values[size] = value;
                wanted[size] = width;
                size++;
            }
        }

        boolean isTarget(int k) {
            return has(k) && wanted[k] == 0;
        }

        int lexemeOf(int k) {
            return has(k) ? lexemes[k] : NONE;
        }

        int indexOf(int k) {
            return has(k) ? indexes[k] : NONE;
        }

        int valueOf(int k) {
            return has(k) ? values[k] : NONE;
        }

        int wantedOf(int k) {
            return has(k) ? wanted[k] : 0;
        }
    }

    /** Reads expressions to nodes, and finds out which brackets are printed. */
    private static final class Expressions {
        private final Faults faults;
        private final Names names;
        private final Lexemes lexemes;
        private final Nodes nodes;
        // The operators that wait for their right side: their kind, left node and first lexeme.
        private final int[] signs = new int[LIMIT];
        private final int[] lefts = new int[LIMIT];
        private final int[] starts = new int[LIMIT];
        private int waiting;
        // What was read last: its node, first lexeme, level, and the outermost brackets round it.
        private int top;
        private int start;
        private int level;
        private int open;
        private int close;

        Expressions(Faults faults, Names names, Lexemes lexemes, Nodes nodes) {
            this.faults = faults;
            this.names = names;
            this.lexemes = lexemes;
            this.nodes = nodes;
        }

        void clear() {
            waiting = 0;
        }

        /** Reads an expression that is in so many others. */
        void expression(int depth) {
            if (depth >= DEEPEST) {
                throw new IllegalStateException("in too many others");
            }
            int base = waiting;
            boolean more = true;
            for (int turn = 0; more && turn <= LIMIT; turn++) {
                prefixes();
                int from = lexemes.at;
                int kind = operandKind();
                switch (kind) {
                    case VALUE:
                        value();
                        break;
                    case NAMED:
                        plainName();
                        break;
                    case ELEMENT:
                        element(depth);
                        break;
                    case SIGN_EXTENDED:
                    case ZERO_EXTENDED:
                        extension(depth, kind);
                        break;
                    case GROUP:
                        group(depth);
                        break;
                    default:
                        list(depth, kind);
                        break;
                }
                hide(from);
                slices();
                int sign = operatorKind(base);
                reduce(base, sign == NONE ? COMPARE_LEVEL : levelOf(sign));
                more = sign != NONE;
                if (more) {
                    operator(sign);
                }
            }
            if (lexemes.here == '?') {
                choice(depth);
            }
        }

        private void prefixes() {
            for (int turn = 0; turn <= LIMIT; turn++) {
                if (lexemes.here == '~') {
                    push(INVERTED, NONE, lexemes.at);
                } else if (lexemes.here == '-') {
                    push(NEGATED, NONE, lexemes.at);
                } else {
                    return;
                }
                lexemes.next();
            }
        }

        private int operandKind() {
            switch (lexemes.here) {
                case NUMBER:
                    return VALUE;
                case NAME:
                    int behind = lexemes.kindAt(lexemes.at + 1);
                    return behind == '[' ? ELEMENT : behind == '(' ? CALL : NAMED;
                case SX:
                    return SIGN_EXTENDED;
                case ZX:
                    return ZERO_EXTENDED;
                case CAT:
                    return JOINED;
                case '(':
                    return GROUP;
                default:
                    throw new IllegalArgumentException("an expression is due");
            }
        }

        private void value() {
            int from = lexemes.at;
            long value = lexemes.valueAt(from);
            lexemes.expect(NUMBER);
            lexemes.expect(':');
            int width = lexemes.number(1, WIDEST);
            if (width >= 1 && width <= WIDEST && value >> width != 0) {
                faults.note(NUMBER_FAULT, lexemes.placeAt(from));
            }
            primary(nodes.add(VALUE, from, NONE, 0), from);
            nodes.widen(top, width);
            nodes.enumerate(top, (int) value);
        }

        private void plainName() {
            int from = lexemes.at;
            lexemes.expect(NAME);
            primary(nodes.add(NAMED, from, NONE, 0), from);
        }

        private void element(int depth) {
            int from = lexemes.at;
            lexemes.expect(NAME);
            lexemes.expect('[');
            expression(depth + 1);
            lexemes.expect(']');
            primary(nodes.add(ELEMENT, from, top, 1), from);
        }

        private void extension(int depth, int kind) {
            int from = lexemes.at;
            lexemes.next();
            lexemes.expect('(');
            expression(depth + 1);
            lexemes.expect(',');
            int width = lexemes.number(1, WIDEST);
            lexemes.expect(')');
            primary(nodes.add(kind, from, top, 1), from);
            nodes.widen(top, width);
        }

        /** A call's list may be empty, a cat's has two at least. */
        private void list(int depth, int kind) {
            int from = lexemes.at;
            int least = kind == JOINED ? 2 : 0;
            lexemes.next();
            lexemes.expect('(');
            int first = NONE;
            int last = NONE;
            int count = 0;
            boolean more = least > 0 || lexemes.here != ')';
            while (more && count <= LIMIT) {
                expression(depth + 1);
                nodes.link(last, top);
                first = count == 0 ? top : first;
                last = top;
                count++;
                more = count < least || lexemes.here == ',';
                if (more) {
                    lexemes.expect(',');
                }
            }
            lexemes.expect(')');
            primary(nodes.add(kind, from, first, count), from);
        }

        /** Brackets are printed only if what is round them asks for it. */
        private void group(int depth) {
            int from = lexemes.at;
            lexemes.style(from, DROPPED);
            lexemes.expect('(');
            expression(depth + 1);
            int to = lexemes.at;
            lexemes.style(to, DROPPED);
            lexemes.expect(')');
            start = from;
            open = from;
            close = to;
        }

        private void primary(int node, int from) {
            settle(node, from, PRIMARY_LEVEL);
        }

        private void settle(int node, int from, int tightness) {
            top = node;
            start = from;
            level = tightness;
            open = NONE;
            close = NONE;
        }

        /** What a parameter, part or rep hides is a number here, and cannot have an index or list. */
        private void hide(int from) {
            int width = names.localOf(lexemes.idAt(from));
            if (width == 0) {
                return;
            }
            nodes.widen(top, width);
            if (nodes.kindOf(top) != NAMED) {
                faults.note(MEANING_FAULT, lexemes.placeAt(from));
            }
        }

        private void slices() {
            for (int turn = 0; lexemes.here == '.' && turn <= LIMIT; turn++) {
                lexemes.next();
                int high = lexemes.number(0, WIDEST - 1);
                lexemes.expect(':');
                int place = lexemes.placeAt(lexemes.at);
                int low = lexemes.number(0, WIDEST - 1);
                if (high < low) {
                    faults.note(NUMBER_FAULT, place);
                }
                want(SLICE_LEVEL);
                settle(nodes.add(SLICE, start, top, 1), start, SLICE_LEVEL);
                nodes.widen(top, high - low + 1);
                nodes.enumerate(top, low);
            }
        }

        /** Brackets round what was read last are kept, when it does not bind as tightly as is due. */
        private void want(int due) {
            if (level < due) {
                lexemes.style(open, PLAIN);
                lexemes.style(close, PLAIN);
            }
        }

        /** The binary operator that comes next, NONE when the expression has no further one. */
        private int operatorKind(int base) {
            int kind = binaryKind(lexemes.here);
            boolean second = waiting > base && levelOf(signAt(base)) == COMPARE_LEVEL;
            // A compare's sides hold no compare, so a second one belongs to nothing.
            return second && levelOf(kind) == COMPARE_LEVEL ? NONE : kind;
        }

        /** What was read last is the operator's left side. */
        private void operator(int kind) {
            int due = levelOf(kind);
            want(due == COMPARE_LEVEL ? due + 1 : due);
            push(kind, top, start);
            lexemes.style(lexemes.at, SPACED);
            lexemes.next();
        }

        private static int binaryKind(int sign) {
            switch (sign) {
                case '*':
                    return TIMES;
                case '+':
                    return PLUS;
                case '-':
                    return MINUS;
                case LEFT_SIGN:
                    return SHIFT_LEFT;
                case RIGHT_SIGN:
                    return SHIFT_RIGHT;
                case '&':
                    return AND;
                case '^':
                    return XOR;
                case '|':
                    return OR;
                case EQUAL_SIGN:
                    return EQUAL;
                case DIFFER_SIGN:
                    return DIFFERENT;
                case '<':
                    return LESS;
                default:
                    return NONE;
            }
        }

        private static int levelOf(int kind) {
            return kind >= 0 && kind < LEVELS.length ? LEVELS[kind] : NONE;
        }

        private int signAt(int i) {
            return i >= 0 && i < waiting && i < signs.length ? signs[i] : NONE;
        }

        private void push(int kind, int left, int from) {
            if (waiting < signs.length) {
                signs[waiting] = kind;
                lefts[waiting] = left;
                starts[waiting] = from;
                waiting++;
            }
        }

        /** Makes nodes of the operators that bind at least so tightly; what was read last is right. */
        private void reduce(int base, int least) {
            while (waiting > base && waiting > 0 && levelOf(signAt(waiting - 1)) >= least) {
                int kind = signAt(waiting - 1);
                waiting--;
                if (levelOf(kind) == PREFIX_LEVEL) {
                    want(PREFIX_LEVEL);
                    settle(nodes.add(kind, starts[waiting], top, 1), starts[waiting], PREFIX_LEVEL);
                } else {
                    want(levelOf(kind) + 1);
                    nodes.link(lefts[waiting], top);
                    int made = nodes.add(kind, starts[waiting], lefts[waiting], 2);
                    settle(made, starts[waiting], levelOf(kind));
                }
            }
        }

        private void choice(int depth) {
            want(COMPARE_LEVEL);
            int condition = top;
            int from = start;
            lexemes.style(lexemes.at, SPACED);
            lexemes.expect('?');
            expression(depth + 1);
            int then = top;
            lexemes.style(lexemes.at, SPACED);
            lexemes.expect(':');
            expression(depth + 1);
            nodes.link(condition, then);
            nodes.link(then, top);
            settle(nodes.add(CHOICE, from, condition, 3), from, CHOICE_LEVEL);
        }
    }

    /** Reads statements and actions. */
    private static final class Reader {
        private static final int REP_WIDTH = 8;

        private final Faults faults;
        private final Names names;
        private final Lexemes lexemes;
        private final Nodes nodes;
        private final Statements statements;
        private final Claims claims;
        private final Expressions expressions;
        // The bodies that are open: the word that began each, and how many names were bound before.
        private final int[] words = new int[DEEPEST];
        private final int[] marks = new int[DEEPEST];
        private int bodies;

        Reader(Faults faults, Names names, Lexemes lexemes, Nodes nodes, Statements statements,
                Claims claims, Expressions expressions) {
            this.faults = faults;
            this.names = names;
            this.lexemes = lexemes;
            this.nodes = nodes;
            this.statements = statements;
            this.claims = claims;
            this.expressions = expressions;
        }

        void clear() {
            bodies = 0;
        }

        boolean isInBody() {
            return bodies > 0;
        }

        boolean isDone() {
            return bodies == 0 && lexemes.here == END;
        }

        void wordLine() {
            lexemes.expect(WORD);
            statements.word = lexemes.number(1, 64);
            lexemes.expect(';');
        }

        void declaration() {
            switch (lexemes.here) {
                case REG:
                    register();
                    break;
                case MEM:
                    memory();
                    break;
                case DEF:
                    helper();
                    break;
                case INS:
                    instruction();
                    break;
                default:
                    throw new IllegalArgumentException("a statement is due");
            }
        }

        private void head(int kind) {
            lexemes.next();
            int from = lexemes.at;
            int id = lexemes.name();
            if (names.ownerOf(id) != NONE) {
                faults.note(TWICE_FAULT, lexemes.placeAt(from));
            }
            names.own(id, statements.add(kind, from, nodes.size));
        }

        private void register() {
            head(REGISTER);
            if (lexemes.here == '[') {
                lexemes.next();
                int place = lexemes.placeAt(lexemes.at);
                int amount = lexemes.number(2, 64);
                if (Integer.bitCount(amount) != 1) {
                    faults.note(NUMBER_FAULT, place);
                }
                statements.enlarge(amount);
                lexemes.expect(']');
            }
            statements.widen(lexemes.number(1, WIDEST));
            lexemes.expect(';');
        }

        private void memory() {
            head(MEMORY);
            lexemes.expect('[');
            statements.enlarge(lexemes.number(1, 20));
            lexemes.expect(']');
            statements.widen(lexemes.number(1, WIDEST));
            lexemes.expect(';');
        }

        private void helper() {
            head(HELPER);
            lexemes.expect('(');
            boolean more = lexemes.here != ')';
            for (int turn = 0; more && turn <= LIMIT; turn++) {
                parameter();
                more = lexemes.here == ',';
                if (more) {
                    lexemes.next();
                }
            }
            lexemes.expect(')');
            int width = lexemes.number(1, WIDEST);
            statements.widen(width);
            lexemes.expect('=');
            int from = lexemes.at;
            expressions.expression(0);
            claims.addWidth(from, expressions.top, width);
            lexemes.expect(';');
            names.release(0);
        }

        private void parameter() {
            int from = lexemes.at;
            int id = lexemes.name();
            bind(id, from, lexemes.number(1, WIDEST));
            statements.enlarge(1);
        }

        private void bind(int id, int from, int width) {
            if (names.localOf(id) != 0) {
                faults.note(TWICE_FAULT, lexemes.placeAt(from));
            }
            names.bind(id, width);
        }

        private void instruction() {
            head(INSTRUCTION);
            for (int turn = 0; turn <= LIMIT; turn++) {
                if (lexemes.here == NUMBER) {
                    bitsPart();
                } else if (lexemes.here == NAME) {
                    namedPart();
                } else {
                    break;
                }
                statements.enlarge(1);
            }
            openBody(INS, 0);
        }

        private void bitsPart() {
            int from = lexemes.at;
            if (!lexemes.isBinary(from)) {
                faults.note(NUMBER_FAULT, lexemes.placeAt(from));
            }
            lexemes.style(from, VERBATIM);
            statements.widen(lexemes.extentAt(from));
            lexemes.next();
        }

        private void namedPart() {
            int from = lexemes.at;
            int id = lexemes.name();
            lexemes.expect(':');
            int width = lexemes.number(1, WIDEST);
            bind(id, from, width);
            statements.widen(width);
        }

        private void openBody(int word, int mark) {
            if (bodies >= DEEPEST) {
                throw new IllegalStateException("in too many others");
            }
            lexemes.expect('{');
            words[bodies] = word;
            marks[bodies] = mark;
            bodies++;
        }

        private void closeBody() {
            lexemes.next();
            if (bodies <= 0 || bodies > DEEPEST) {
                return;
            }
            bodies--;
            int mark = marks[bodies];
            names.release(mark);
            if (words[bodies] == IF && lexemes.here == ELSE) {
                lexemes.next();
                openBody(ELSE, mark);
            }
        }

        void action() {
            if (lexemes.here == '}') {
                closeBody();
                return;
            }
            statements.addAction();
            switch (lexemes.here) {
                case NAME:
                    assignment();
                    break;
                case IF:
                    branch();
                    break;
                case REP:
                    repetition();
                    break;
                case RAISE:
                    lexemes.next();
                    lexemes.number(0, BYTE);
                    lexemes.expect(';');
                    break;
                default:
                    throw new IllegalArgumentException("an action is due");
            }
        }

        private void assignment() {
            int from = lexemes.at;
            int id = lexemes.name();
            int index = NONE;
            if (lexemes.here == '[') {
                lexemes.next();
                expressions.expression(bodies - 1);
                index = expressions.top;
                lexemes.expect(']');
            }
            lexemes.expect('=');
            expressions.expression(bodies - 1);
            lexemes.expect(';');
            if (names.localOf(id) != 0) {
                faults.note(MEANING_FAULT, lexemes.placeAt(from));
            } else {
                claims.addTarget(from, index, expressions.top);
            }
        }

        private void branch() {
            lexemes.next();
            int from = lexemes.at;
            expressions.expression(bodies - 1);
            claims.addWidth(from, expressions.top, 1);
            openBody(IF, names.boundSize);
        }

        private void repetition() {
            lexemes.next();
            int from = lexemes.at;
            int id = lexemes.name();
            lexemes.number(1, BYTE);
            int mark = names.boundSize;
            bind(id, from, REP_WIDTH);
            openBody(REP, mark);
        }
    }

    /** Asks whether names, widths and bits are right. */
    private static final class Checker {
        private final Faults faults;
        private final Names names;
        private final Lexemes lexemes;
        private final Nodes nodes;
        private final Statements statements;
        private final Claims claims;

        Checker(Faults faults, Names names, Lexemes lexemes, Nodes nodes, Statements statements,
                Claims claims) {
            this.faults = faults;
            this.names = names;
            this.lexemes = lexemes;
            this.nodes = nodes;
            this.statements = statements;
            this.claims = claims;
        }

        void checkNames() {
            for (int k = 0; k < nodes.size; k++) {
                int kind = nodes.kindOf(k);
                // A width is told already where a parameter, part or rep hides the statement.
                if (kind >= NAMED && kind <= CALL && nodes.widthOf(k) == 0) {
                    checkName(nodes.startOf(k), kind, nodes.partsOf(k));
                }
            }
            for (int k = 0; k < claims.size; k++) {
                if (claims.isTarget(k)) {
                    checkName(claims.lexemeOf(k), claims.indexOf(k) == NONE ? NAMED : ELEMENT, 1);
                }
            }
        }

        private void checkName(int lexeme, int use, int parts) {
            int statement = ownerAt(lexeme);
            if (statement == NONE) {
                faults.note(UNKNOWN_FAULT, lexemes.placeAt(lexeme));
            } else if (!fits(statement, use, parts)) {
                faults.note(MEANING_FAULT, lexemes.placeAt(lexeme));
            }
        }

        private boolean fits(int statement, int use, int parts) {
            int kind = statements.kindOf(statement);
            int amount = statements.amountOf(statement);
            switch (use) {
                case NAMED:
                    return kind == REGISTER && amount == 0;
                case ELEMENT:
                    return kind == MEMORY || kind == REGISTER && amount != 0;
                default:
                    return kind == HELPER && amount == parts;
            }
        }

        private int ownerAt(int lexeme) {
            return names.ownerOf(lexemes.idAt(lexeme));
        }

        void checkWidths() {
            for (int k = 0; k < nodes.size; k++) {
                boolean asked = hasRightParts(k);
                int width = asked ? widthOf(k) : 0;
                nodes.widen(k, width);
                if (asked && width == 0) {
                    faults.note(WIDTH_FAULT, lexemes.placeAt(nodes.startOf(k)));
                }
            }
            for (int k = 0; k < claims.size; k++) {
                boolean right = claims.isTarget(k) ? isTargetRight(k) : isWidthRight(k);
                if (!right) {
                    faults.note(WIDTH_FAULT, lexemes.placeAt(claims.lexemeOf(k)));
                }
            }
        }

        private boolean hasRightParts(int k) {
            int part = nodes.firstOf(k);
            for (int i = 0; i < nodes.partsOf(k); i++) {
                if (nodes.widthOf(part) == 0) {
                    return false;
                }
                part = nodes.followerOf(part);
            }
            return true;
        }

        /** The width of a node whose parts are right, 0 when it is wrong itself. */
        private int widthOf(int k) {
            int told = nodes.widthOf(k);
            int first = nodes.widthOf(nodes.firstOf(k));
            switch (nodes.kindOf(k)) {
                case VALUE:
                    return told;
                case NAMED:
                    return told != 0 ? told : statements.widthOf(ownerAt(nodes.startOf(k)));
                case ELEMENT:
                    int owner = ownerAt(nodes.startOf(k));
                    return first == indexWidth(owner) ? statements.widthOf(owner) : 0;
                case CALL:
                    return callWidth(k);
                case SIGN_EXTENDED:
                case ZERO_EXTENDED:
                    return told >= first ? told : 0;
                case JOINED:
                    return joinedWidth(k);
                case SLICE:
                    return nodes.numberOf(k) + told - 1 < first ? told : 0;
                case INVERTED:
                case NEGATED:
                case SHIFT_LEFT:
                case SHIFT_RIGHT:
                    return first;
                case CHOICE:
                    int second = nodes.widthOf(nodes.partOf(k, 1));
                    return first == 1 && second == nodes.widthOf(nodes.partOf(k, 2)) ? second : 0;
                default:
                    return pairWidth(k);
            }
        }

        /** Of + - * & | ^ and compares. */
        private int pairWidth(int k) {
            int left = nodes.widthOf(nodes.firstOf(k));
            int right = nodes.widthOf(nodes.partOf(k, 1));
            if (left != right) {
                return 0;
            }
            return nodes.kindOf(k) >= EQUAL ? 1 : left;
        }

        private int indexWidth(int statement) {
            int amount = statements.amountOf(statement);
            boolean memory = statements.kindOf(statement) == MEMORY;
            return memory ? amount : Integer.numberOfTrailingZeros(amount);
        }

        private int callWidth(int k) {
            int helper = ownerAt(nodes.startOf(k));
            // Behind the helper's NAME stand "(", then NAME, NUMBER and "," for each parameter.
            int parameter = statements.headOf(helper) + 3;
            int part = nodes.firstOf(k);
            for (int i = 0; i < nodes.partsOf(k); i++) {
                if (nodes.widthOf(part) != lexemes.valueAt(parameter)) {
                    return 0;
                }
                part = nodes.followerOf(part);
                parameter += 3;
            }
            return statements.widthOf(helper);
        }

        private int joinedWidth(int k) {
            int sum = 0;
            int part = nodes.firstOf(k);
            for (int i = 0; i < nodes.partsOf(k); i++) {
                sum += nodes.widthOf(part);
                part = nodes.followerOf(part);
            }
            return sum <= WIDEST ? sum : 0;
        }

        /** Nothing is asked of an expression that has a wrong one in it, whose width is 0. */
        private boolean isWidthRight(int claim) {
            int width = nodes.widthOf(claims.valueOf(claim));
            return width == 0 || width == claims.wantedOf(claim);
        }

        private boolean isTargetRight(int claim) {
            int statement = ownerAt(claims.lexemeOf(claim));
            int index = claims.indexOf(claim);
            if (index != NONE) {
                int width = nodes.widthOf(index);
                if (width == 0) {
                    return true;
                }
                if (width != indexWidth(statement)) {
                    return false;
                }
            }
            int width = nodes.widthOf(claims.valueOf(claim));
            return width == 0 || width == statements.widthOf(statement);
        }

        void checkInstructions() {
            for (int k = 0; k < statements.size; k++) {
                boolean instruction = statements.kindOf(k) == INSTRUCTION;
                if (instruction && statements.widthOf(k) != statements.word) {
                    faults.note(BITS_FAULT, lexemes.placeAt(statements.headOf(k)));
                }
            }
        }
    }

    /** Looks for helpers that call themselves by way of any. */
    private static final class Rings {
        private final Faults faults;
        private final Names names;
        private final Lexemes lexemes;
        private final Statements statements;
        // For each helper a chain of those that call it.
        private final int[] chains = new int[MOST_STATEMENTS];
        private final int[] callers = new int[MOST_CALLS];
        private final int[] links = new int[MOST_CALLS];
        private int calls;
        // How many calls of each lead to helpers that are not taken away yet.
        private final int[] pending = new int[MOST_STATEMENTS];
        private final int[] distances = new int[MOST_STATEMENTS];
        private final int[] queue = new int[MOST_STATEMENTS];
        private int queued;
        private final int[] places = new int[MOST_STATEMENTS];
        private int size;

        Rings(Faults faults, Names names, Lexemes lexemes, Statements statements) {
            this.faults = faults;
            this.names = names;
            this.lexemes = lexemes;
            this.statements = statements;
        }

        void clear() {
            size = 0;
        }

        boolean has(int k) {
            return k >= 0 && k < size;
        }

        int placeOf(int k) {
            return has(k) ? places[k] : NONE;
        }

        void search() {
            collect();
            if (isFree()) {
                return;
            }
            for (int k = 0; k < statements.size; k++) {
                measure(k);
                if (nearest(k) != NONE) {
                    trace(k);
                    faults.note(RING_FAULT, lexemes.placeAt(statements.headOf(k)));
                    return;
                }
            }
        }

        private void collect() {
            calls = 0;
            for (int k = 0; k < statements.size && k < MOST_STATEMENTS; k++) {
                chains[k] = NONE;
                pending[k] = 0;
            }
            for (int k = 0; k < statements.size; k++) {
                int last = lastLexeme(k);
                for (int i = statements.headOf(k) + 1; i < last; i++) {
                    addCall(k, calledAt(i));
                }
            }
        }

        private void addCall(int caller, int called) {
            if (!isRow(caller) || !isRow(called) || calls >= MOST_CALLS) {
                return;
            }
            callers[calls] = caller;
            links[calls] = chains[called];
            chains[called] = calls;
            calls++;
            pending[caller]++;
        }

        private boolean isRow(int k) {
            return k >= 0 && k < statements.size && k < MOST_STATEMENTS;
        }

        private boolean isCall(int call) {
            return call >= 0 && call < calls && call < MOST_CALLS;
        }

        /** The first of the calls of a helper, NONE without. */
        private int chainOf(int k) {
            return isRow(k) ? chains[k] : NONE;
        }

        /** The lexeme that ends a helper; none of another statement's is looked at. */
        private int lastLexeme(int k) {
            int from = statements.headOf(k);
            if (statements.kindOf(k) != HELPER) {
                return from;
            }
            for (int i = from; i < lexemes.size; i++) {
                if (lexemes.kindAt(i) == ';') {
                    return i;
                }
            }
            return lexemes.size;
        }

        private int calledAt(int i) {
            return lexemes.kindAt(i + 1) == '(' ? names.ownerOf(lexemes.idAt(i)) : NONE;
        }

        private void enqueue(int k) {
            if (queued < MOST_STATEMENTS) {
                queue[queued] = k;
                queued++;
            }
        }

        /** Takes away, again and again, those that call none that is left: is none left then? */
        private boolean isFree() {
            queued = 0;
            for (int k = 0; k < statements.size; k++) {
                if (isRow(k) && pending[k] == 0) {
                    enqueue(k);
                }
            }
            for (int i = 0; i < queued && i < MOST_STATEMENTS; i++) {
                int call = chainOf(queue[i]);
                for (int turn = 0; isCall(call) && turn < calls; turn++) {
                    settleOne(callers[call]);
                    call = links[call];
                }
            }
            return queued >= statements.size;
        }

        private void settleOne(int caller) {
            if (isRow(caller)) {
                pending[caller]--;
                if (pending[caller] == 0) {
                    enqueue(caller);
                }
            }
        }

        /** By how few calls each helper comes to the told one. */
        private void measure(int told) {
            for (int k = 0; k < statements.size && k < MOST_STATEMENTS; k++) {
                distances[k] = NONE;
            }
            queued = 0;
            if (!isRow(told)) {
                return;
            }
            distances[told] = 0;
            enqueue(told);
            for (int i = 0; i < queued && i < MOST_STATEMENTS; i++) {
                int called = queue[i];
                int call = chainOf(called);
                for (int turn = 0; isCall(call) && turn < calls; turn++) {
                    reach(callers[call], called);
                    call = links[call];
                }
            }
        }

        private void reach(int caller, int called) {
            if (isRow(caller) && isRow(called) && distances[caller] == NONE) {
                distances[caller] = distances[called] + 1;
                enqueue(caller);
            }
        }

        /** The first one it calls from which the measured one is come to by the fewest calls. */
        private int nearest(int k) {
            int best = NONE;
            int last = lastLexeme(k);
            for (int i = statements.headOf(k) + 1; i < last; i++) {
                int called = calledAt(i);
                boolean leads = isRow(called) && distances[called] != NONE;
                if (leads && (best == NONE || distances[called] < distances[best])) {
                    best = called;
                }
            }
            return best;
        }

        private void trace(int told) {
            int k = told;
            for (int turn = 0; turn < MOST_STATEMENTS; turn++) {
                places[turn] = lexemes.placeAt(statements.headOf(k));
                size = turn + 1;
                k = nearest(k);
                if (k == told || k == NONE) {
                    return;
                }
            }
        }
    }

    /** Prints the lexemes that were read. */
    private static final class Printer {
        private final Lexemes lexemes;
        private final byte[] printed = new byte[MOST_PRINTED];
        private int size;

        Printer(Lexemes lexemes) {
            this.lexemes = lexemes;
        }

        boolean has(int i) {
            return i >= 0 && i < size;
        }

        int byteAt(int i) {
            return has(i) ? printed[i] & BYTE : NONE;
        }

        /** As many as fit. */
        int copyTo(byte[] text) {
            int bytes = Math.min(size, text.length);
            System.arraycopy(printed, 0, text, 0, bytes);
            return bytes;
        }

        void write() {
            size = 0;
            int before = NONE;
            for (int i = 0; i < lexemes.size; i++) {
                if (lexemes.styleAt(i) != DROPPED) {
                    writeGap(before, i);
                    writeLexeme(i);
                    before = i;
                }
            }
            put('\n');
        }

        private void put(int c) {
            if (size < printed.length) {
                printed[size] = (byte) c;
                size++;
            }
        }

        private void writeGap(int before, int i) {
            if (before == NONE) {
                return;
            }
            int kind = lexemes.kindAt(i);
            if (kind >= REG && kind <= INS) {
                put('\n');
            } else if (isSpaced(before) || isSpaced(i) || isApart(lexemes.kindAt(before), kind)) {
                put(' ');
            }
        }

        private boolean isSpaced(int i) {
            return lexemes.styleAt(i) == SPACED || lexemes.kindAt(i) == '=';
        }

        private static boolean isApart(int before, int kind) {
            switch (before) {
                case ',':
                case ';':
                case '{':
                case '}':
                    return true;
                case ')':
                case ']':
                    return kind == NUMBER || kind == '{' || kind == '}';
                default:
                    return kind == '{' || kind == '}' || isWordlike(before) && isWordlike(kind);
            }
        }

        private static boolean isWordlike(int kind) {
            return kind == NAME || kind == NUMBER || kind >= FIRST_WORD && kind <= CAT;
        }

        private void writeLexeme(int i) {
            if (lexemes.kindAt(i) == NUMBER && lexemes.styleAt(i) != VERBATIM) {
                writeDecimal(lexemes.valueAt(i));
                return;
            }
            int from = lexemes.placeAt(i);
            for (int k = 0; k < lexemes.extentAt(i); k++) {
                put(lexemes.byteAt(from + k));
            }
        }

        private void writeDecimal(long value) {
            long unit = 1;
            for (int turn = 0; turn < 12 && value / unit >= 10; turn++) {
                unit *= 10;
            }
            for (int turn = 0; turn < 13 && unit > 0; turn++) {
                put('0' + (int) (value / unit % 10));
                unit /= 10;
            }
        }
    }
}
