/**
 * The edges that the thirteen promises name, in their order: too small, too large, empty, full, a
 * wrap-around, a refused call. Before each method stands the sentence that would be broken.
 */
public final class PromiseEdgeTest {
    private static final int MIN = Integer.MIN_VALUE;
    private static final int MAX = Integer.MAX_VALUE;
    private static final String ARGUMENT = "IllegalArgumentException";
    private static final String STATE = "IllegalStateException";
    private static final String INDEX = "IndexOutOfBoundsException";

    private static final String SOUND = "word 8; reg a 8; reg R[4] 8; mem M[3] 8; def f(x 8) 8 = x + a;"
        + " ins i 0101 d:4 { a = f(a); raise 1; }";
    private static final String RING = "word 8; def f() 8 = g(); def g() 8 = f();";
    // A text for each fault, the first one for 1, with the place in it that is due.
    private static final String[] FAULTY = {
        "word 8; !", "word 8; ;", "word 8; def f() 8 = " + "(".repeat(80), "word 65;", "word 8; reg a 8; reg a 8;",
        "word 8; def f() 8 = a;", "word 8; def f() 8 = f;", RING, "word 8; def f() 8 = 1:7;", "word 8; ins i 1 {}"};
    private static final int[] PLACES = {8, 8, 100, 5, 21, 20, 20, 12, 20, 12};

    public static void main(String[] args) {
        newObjects();
        feedOrder();
        feedFull();
        feedRefused();
        endAnswers();
        endGone();
        endWrongArgument();
        endTooFew();
        readEmpties();
        readCounts();
        readForgets();
        readRefuses();
        faultAnswers();
        faultAtTheEnd();
        faultWrongWhat();
        statementAnswers();
        statementActions();
        statementWrong();
        bitsAnswers();
        bitsOfPartsNames();
        bitsWrong();
        bitsOfOthers();
        nodeAnswers();
        nodeParts();
        nodeNumbers();
        nodeWrong();
        ringAnswers();
        ringWithout();
        printAnswers();
        printRefused();
        outAnswers();
        outStays();
        outWithout();
        againAnswers();
        againRefused();
        countAnswers();
        countOther();
        severalExceptions();
        Harness.finish("PromiseEdgeTest");
    }

    private static void feedOne(MachineText x) {
        x.feed(0x40404040, 0x40404040, 0x40404040, 0x40404040);
    }

    /** An object in each of the states that the promises tell apart: new, sound, with each fault, printed. */
    private static MachineText[] objects() {
        MachineText[] all = new MachineText[FAULTY.length + 4];
        all[0] = new MachineText();
        all[1] = Harness.read(SOUND);
        all[2] = Harness.read("word 8;");
        all[3] = Harness.read(SOUND);
        all[3].print();
        Harness.feed(all[3], "word 8; reg");
        for (int i = 0; i < FAULTY.length; i++) {
            all[4 + i] = Harness.read(FAULTY[i]);
        }
        return all;
    }

    /** 1: An empty text, nothing read. */
    private static void newObjects() {
        MachineText used = Harness.read(SOUND);
        used.print();
        feedOne(used);
        MachineText x = new MachineText();
        Harness.due("a new object beside a used one", Harness.stateOf(x), "0 0 0 0 0 0@0");
        Harness.dueRefused("print() of nothing", x, () -> x.print(), STATE);
        Harness.dueRefused("end(0) of nothing", x, () -> x.end(0), STATE);
        Harness.due("the used one", used.count(2), 5);
    }

    /** 2: Sixteen bytes come behind the text, the highest of a first: how many it has. */
    private static void feedOrder() {
        // Of sixteen blanks one is turned into no lexeme, so that the fault's place is its own.
        for (int at = 0; at < 16; at++) {
            int[] four = {0x20202020, 0x20202020, 0x20202020, 0x20202020};
            four[at / 4] ^= 0x01000000 >>> at % 4 * 8;
            MachineText x = new MachineText();
            Harness.dueCall("feed", () -> x.feed(four[0], four[1], four[2], four[3]), 16);
            Harness.dueCall("read()", () -> x.read(), ARGUMENT);
            Harness.due("the place of byte " + at, Harness.faultOf(x), "1@" + at);
        }
        // Negative ints are four bytes like others.
        MachineText x = new MachineText();
        x.feed(0x776f7264, 0x20343b23, -1, MIN);
        Harness.dueCall("feed behind it", () -> x.feed(0x0a726567, 0x20612034, 0x3b23ff80, -2), 32);
        Harness.dueCall("read()", () -> x.read(), 1);
    }

    /** 2: how many it has; at most 8192. */
    private static void feedFull() {
        MachineText x = new MachineText();
        for (int i = 1; i <= 512; i++) {
            Harness.due("feed " + i, x.feed(0x20202020, 0x20202020, 0x20202020, 0x20202020), 16 * i);
        }
        Harness.dueRefused("feed 513", x, () -> x.feed(0, 0, 0, 0), STATE);
        Harness.due("count(0)", x.count(0), 8192);
    }

    /** 2: IllegalStateException, when there would be more than 8192. */
    private static void feedRefused() {
        for (int bytes : new int[] {8175, 8176, 8177, 8191, 8192}) {
            MachineText x = Harness.ofLength(bytes);
            if (bytes <= 8176) {
                Harness.dueCall("feed at " + bytes, () -> x.feed(0x20202020, 0x20202020, 0x20202020, 0x20202020), bytes + 16);
            } else {
                Harness.dueRefused("feed at " + bytes, x, () -> x.feed(0x40404040, 0, 0, 0), STATE);
            }
            Harness.dueCall("read() of it", () -> x.read(), 2);
            Harness.due("print() of it", x.print(), bytes);
        }
    }

    /** 3: Of the last sixteen bytes n (0 .. 16) count: how many there are. */
    private static void endAnswers() {
        for (int n = 0; n <= 16; n++) {
            int of = n;
            MachineText once = new MachineText();
            feedOne(once);
            Harness.dueCall("end(" + n + ") of 16", () -> once.end(of), n);
            MachineText twice = new MachineText();
            feedOne(twice);
            feedOne(twice);
            Harness.dueCall("end(" + n + ") of 32", () -> twice.end(of), 16 + n);
            MachineText full = Harness.ofLength(8192);
            Harness.dueCall("end(" + n + ") of 8192", () -> full.end(of), 8176 + n);
            Harness.due("count(0)", full.count(0), 8176 + n);
        }
    }

    /** 3: the others are gone. */
    private static void endGone() {
        for (int n = 0; n <= 16; n++) {
            String text = "word 8;#" + "@".repeat(8 + n);
            MachineText x = new MachineText();
            Harness.feed(x, text.substring(0, 16));
            feedOne(x);
            x.end(n);
            // The comment hides the bytes that count; the fault behind it tells how many they are.
            x.feed(0x0a726567, 0x2061203b, 0x20202020, 0x20202020);
            Harness.dueCall("read()", () -> x.read(), ARGUMENT);
            Harness.due("the fault behind end(" + n + ")", Harness.faultOf(x), "2@" + (16 + n + 7));
        }
        // What was cut off is no part of the text, be it cut off in several turns.
        MachineText x = new MachineText();
        Harness.feed(x, "word 8; reg a 8;");
        feedOne(x);
        feedOne(x);
        Harness.dueCall("end(3)", () -> x.end(3), 35);
        Harness.dueCall("end(0)", () -> x.end(0), 19);
        Harness.dueCall("end(13)", () -> x.end(13), 16);
        Harness.dueCall("read()", () -> x.read(), 1);
    }

    /** 3: IllegalArgumentException, when n is none of these. */
    private static void endWrongArgument() {
        for (int n : new int[] {-1, 17, 18, -16, 32, 256, MIN, MAX}) {
            for (int bytes : new int[] {0, 15, 16, 32}) {
                MachineText x = new MachineText();
                Harness.feed(x, " ".repeat(bytes));
                Harness.dueRefused("end(" + n + ") of " + bytes, x, () -> x.end(n), ARGUMENT);
                Harness.due("count(0)", x.count(0), bytes);
            }
        }
    }

    /** 3: IllegalStateException, when there are less than sixteen. */
    private static void endTooFew() {
        for (int bytes = 0; bytes <= 16; bytes++) {
            for (int n = 0; n <= 16; n++) {
                int of = n;
                MachineText x = new MachineText();
                Harness.feed(x, " ".repeat(bytes));
                if (bytes < 16) {
                    Harness.dueRefused("end(" + n + ") of " + bytes, x, () -> x.end(of), STATE);
                } else {
                    Harness.dueCall("end(" + n + ") of 16", () -> x.end(of), n);
                }
            }
        }
        MachineText x = Harness.read(SOUND);
        Harness.dueRefused("end(16) behind read", x, () -> x.end(16), STATE);
    }

    /** 4: Reads the text, which is empty then. */
    private static void readEmpties() {
        for (String text : new String[] {SOUND, FAULTY[0], FAULTY[1], FAULTY[9], ""}) {
            MachineText x = new MachineText();
            Harness.feed(x, text);
            Harness.readAgain(x);
            Harness.due("count(0) behind " + text, x.count(0), 0);
            Harness.dueCall("read() of the empty text", () -> x.read(), ARGUMENT);
            Harness.due("the fault of the empty text", Harness.faultOf(x), "2@0");
            Harness.dueCall("feed into the empty text", () -> x.feed(0x776f7264, 0x20383b20, 0x20202020, 0x20202020), 16);
            Harness.dueCall("read()", () -> x.read(), 0);
        }
    }

    /** 4: how many statements it has (without the word). */
    private static void readCounts() {
        for (int many : new int[] {0, 1, 2, 700}) {
            StringBuilder text = new StringBuilder("word 8;");
            for (int i = 0; i < many; i++) {
                text.append("reg a").append(i).append(" 8;");
            }
            MachineText x = new MachineText();
            Harness.feed(x, text.toString());
            Harness.dueCall("read() of " + many, () -> x.read(), many);
            Harness.due("count(2)", x.count(2), many);
            if (many > 0) {
                Harness.due("the last one", x.statement(many - 1, 1), 8);
            }
            Harness.dueCall("behind it", () -> x.statement(many, 0), INDEX);
        }
        MachineText full = Harness.ofLength(8192);
        Harness.dueCall("read() of a full text", () -> full.read(), 2);
        Harness.due("its actions", full.statement(1, 3), (8192 - 29) / 7);
    }

    /** 4: What was read before is gone. */
    private static void readForgets() {
        String[] texts = {"word 8;", "word 8; reg b 4;", FAULTY[0], FAULTY[1], FAULTY[4], FAULTY[7], FAULTY[9], ""};
        for (String before : new String[] {SOUND, RING, FAULTY[4]}) {
            for (String text : texts) {
                MachineText x = Harness.read(before);
                Harness.feed(x, text);
                Harness.readAgain(x);
                Harness.due(text + " behind " + before, Harness.stateOf(x), Harness.stateOf(Harness.read(text)));
            }
        }
        // So is what a reading that was broken off had open: bodies, lists, reps, signs without a right side.
        String[] broken = {
            "word 8; ins i d:8 { if a == a { rep n 3 {", "word 8; def f(x 8, y 8) 8 = x + ~(y * -", "word 8; ins i d:8 { rep x 3 { a = (d + !",
            "word 8; ins i a:8 {" + "if a {".repeat(79) + "if", "word 8; def f(a 8) 8 = (a, a + cat(a, (a ? ;",
            "word 8; def f(a 8, x 8, R 8) 8 = a & (x", "word 8; ins a a:8 { rep R 3 { a = a; } } reg a"};
        for (String text : broken) {
            MachineText x = Harness.read(text);
            Harness.due("a fault of " + text, x.fault(0) != 0, true);
            for (int turn = 0; turn < 8; turn++) {
                Harness.feed(x, text);
                Harness.readAgain(x);
            }
            Harness.feed(x, SOUND);
            Harness.readAgain(x);
            Harness.due("a sound text behind " + text, Harness.stateOf(x), Harness.stateOf(Harness.read(SOUND)));
        }
        // Names are forgotten, too: neither known nor taken.
        MachineText x = Harness.read(SOUND);
        Harness.feed(x, "word 8; reg x 8; reg f 8; reg R 8; ins M d:8 { x = a; }");
        Harness.readAgain(x);
        Harness.due("a name of the text before", Harness.faultOf(x), "6@51");
    }

    /** 4: IllegalArgumentException, when it has a fault. */
    private static void readRefuses() {
        for (String text : FAULTY) {
            MachineText x = new MachineText();
            Harness.feed(x, text);
            Harness.dueCall("read() of " + text, () -> x.read(), ARGUMENT);
            Harness.dueCall("statement(0, 0)", () -> x.statement(0, 0), INDEX);
            Harness.dueCall("bits(0, 0)", () -> x.bits(0, 0), INDEX);
            Harness.dueCall("node(0, 0)", () -> x.node(0, 0), INDEX);
        }
    }

    /** 5: The fault of what was read last (what 0; 0 none), and its place (1). */
    private static void faultAnswers() {
        MachineText x = new MachineText();
        Harness.due("fault(0) of nothing read", x.fault(0), 0);
        for (int i = 0; i < FAULTY.length; i++) {
            Harness.feed(x, FAULTY[i]);
            Harness.readAgain(x);
            Harness.due("fault of " + FAULTY[i], Harness.faultOf(x), (i + 1) + "@" + PLACES[i]);
            feedOne(x);
            x.end(0);
            Harness.dueRefused("print()", x, () -> x.print(), STATE);
            Harness.due("fault until the next read", Harness.faultOf(x), (i + 1) + "@" + PLACES[i]);
            Harness.feed(x, SOUND);
            Harness.readAgain(x);
            Harness.due("fault(0) of a sound text", x.fault(0), 0);
        }
    }

    /** 5, and Terms: a place (a byte; the text's length for its end). */
    private static void faultAtTheEnd() {
        Harness.dueFault("", "2@0");
        Harness.dueFault(" ", "2@1");
        Harness.dueFault("word 8", "2@6");
        Harness.dueFault("word 8;reg a 8 # 8;", "2@19");
        Harness.dueFault("word 8;reg a 8\n\t\r ", "2@18");
        Harness.dueFault(" ".repeat(8192), "2@8192");
        Harness.dueFault(" ".repeat(8191) + "!", "1@8191");
        Harness.dueFault("word 8;" + " ".repeat(8184) + "1", "2@8191");
        Harness.dueFault("word 8; def f() 8 = " + "(".repeat(80), "3@100");
    }

    /** 5: IndexOutOfBoundsException, for another what. */
    private static void faultWrongWhat() {
        for (MachineText x : objects()) {
            for (int what : new int[] {-1, 2, 3, MIN, MAX}) {
                Harness.dueRefused("fault(" + what + ")", x, () -> x.fault(what), INDEX);
            }
        }
    }

    private static void dueStatement(String text, int... due) {
        MachineText x = Harness.read("word 64;" + text);
        Harness.due("fault of " + text, Harness.faultOf(x), "none");
        for (int what = 0; what < due.length; what++) {
            Harness.due("statement(0, " + what + ") of " + text, x.statement(0, what), due[what]);
        }
    }

    /** 6: what it is, its width, how many registers, address bits, parameters or parts, nodes. */
    private static void statementAnswers() {
        dueStatement("reg a 1;", 0, 1, 0, 0, 0);
        dueStatement("reg a 32;", 0, 32, 0, 0, 0);
        for (int many = 2; many <= 64; many *= 2) {
            dueStatement("reg a[" + many + "] 32;", 0, 32, many, 0, 0);
        }
        dueStatement("mem a[1] 1;", 1, 1, 1, 0, 0);
        dueStatement("mem a[20] 32;", 1, 32, 20, 0, 0);
        dueStatement("def a() 1 = 0:1;", 2, 1, 0, 0, 1);
        dueStatement("def a(b 32) 32 = -b;", 2, 32, 1, 0, 2);
        StringBuilder list = new StringBuilder("p0 1");
        for (int i = 1; i < 300; i++) {
            list.append(",p").append(i).append(" 1");
        }
        dueStatement("def a(" + list + ") 1 = p299 + p0;", 2, 1, 300, 0, 3);
        dueStatement("ins a b:32 c:32 {}", 3, 64, 2, 0, 0);
        dueStatement("ins a" + " 1".repeat(64) + " {}", 3, 64, 64, 0, 0);
        MachineText x = Harness.read("word 1; ins a 1 {} reg r 8; ins b q:1 { r = r; } def c() 8 = r; ins d 0 { r = c(); }");
        int[] nodes = {0, 0, 1, 1, 1};
        for (int k = 0; k < nodes.length; k++) {
            Harness.due("nodes of statement " + k, x.statement(k, 4), nodes[k]);
            Harness.due("width of statement " + k, x.statement(k, 1), k % 2 == 1 || k == 3 ? 8 : 1);
        }
    }

    /** 6: actions in it and in these. */
    private static void statementActions() {
        String head = "word 1; ins a p:1 {";
        String[] bodies = {
            "", "raise 0;", "if p {}", "if p {} else {}", "if p { raise 1; } else { raise 2; raise 3; }", "rep n 2 {}",
            "rep n 2 { rep m 3 { raise 4; } }", "if p {".repeat(79) + "}".repeat(79), "raise 1;".repeat(500)};
        int[] due = {0, 1, 1, 1, 4, 1, 3, 79, 500};
        for (int i = 0; i < bodies.length; i++) {
            MachineText x = Harness.read(head + bodies[i] + "} ins b q:1 { raise 9; }");
            Harness.due("actions of {" + bodies[i] + "}", x.statement(0, 3), due[i]);
            Harness.due("actions of the one behind it", x.statement(1, 3), 1);
        }
    }

    /** 6: IndexOutOfBoundsException, when there is no such statement or what. */
    private static void statementWrong() {
        for (MachineText x : objects()) {
            int size = x.count(2);
            for (int k : new int[] {-1, size, size + 1, MIN, MAX}) {
                for (int what = 0; what <= 4; what++) {
                    int w = what;
                    Harness.dueRefused("statement(" + k + ", " + what + ")", x, () -> x.statement(k, w), INDEX);
                }
            }
            for (int what : new int[] {-1, 5, MIN, MAX}) {
                Harness.dueRefused("statement(0, " + what + ")", x, () -> x.statement(0, what), INDEX);
            }
        }
    }

    private static void dueBits(int word, String parts, long ones, long told) {
        MachineText x = Harness.read("word " + word + "; ins i " + parts + " {}");
        Harness.due("fault of " + parts, Harness.faultOf(x), "none");
        Harness.due("bits(0, 0) of " + parts, x.bits(0, 0), ones);
        Harness.due("bits(0, 1) of " + parts, x.bits(0, 1), told);
    }

    /** 7: its bits that are told (0: those that are 1; 1: those that are told at all), the first part's highest. */
    private static void bitsAnswers() {
        dueBits(1, "0", 0, 1);
        dueBits(1, "1", 1, 1);
        for (int at = 0; at < 64; at++) {
            String all = "0".repeat(63 - at) + "1" + "0".repeat(at);
            dueBits(64, all.substring(0, 32) + " " + all.substring(32), 1L << at, -1L);
            dueBits(64, String.join(" ", all.split("")), 1L << at, -1L);
            if (at < 63) {
                dueBits(at + 1, "1" + " 0".repeat(at), 1L << at, (2L << at) - 1);
            }
        }
        dueBits(64, "1".repeat(32) + " " + "1".repeat(32), -1L, -1L);
        dueBits(64, "1" + " 1".repeat(63), -1L, -1L);
    }

    /** 7: of a part's name the bits are not told. */
    private static void bitsOfPartsNames() {
        dueBits(1, "a:1", 0, 0);
        dueBits(64, "a:32 b:32", 0, 0);
        dueBits(64, "a:31 1 b:31 1", 0x100000001L, 0x100000001L);
        dueBits(64, "1 a:31 b:32", Long.MIN_VALUE, Long.MIN_VALUE);
        dueBits(64, "1 a:32 b:30 1", Long.MIN_VALUE | 1, Long.MIN_VALUE | 1);
        dueBits(64, "0 a:0x1f b:000032", 0, Long.MIN_VALUE);
        for (int width = 1; width <= 32; width++) {
            dueBits(64, "1 a:" + width + " " + "1".repeat(31) + " 1".repeat(32 - width),
                -1L & ~((1L << width) - 1 << 63 - width), -1L & ~((1L << width) - 1 << 63 - width));
        }
    }

    /** 7: IndexOutOfBoundsException, when there is no such statement or what. */
    private static void bitsWrong() {
        for (MachineText x : objects()) {
            int size = x.count(2);
            for (int k : new int[] {-1, size, size + 1, MIN, MAX}) {
                Harness.dueRefused("bits(" + k + ", 0)", x, () -> x.bits(k, 0), INDEX);
                Harness.dueRefused("bits(" + k + ", 1)", x, () -> x.bits(k, 1), INDEX);
            }
            for (int what : new int[] {-1, 2, MIN, MAX}) {
                Harness.dueRefused("bits of the last, " + what, x, () -> x.bits(size - 1, what), INDEX);
            }
        }
    }

    /** 7: IllegalStateException, when it is no instruction. */
    private static void bitsOfOthers() {
        MachineText x = Harness.read(SOUND);
        for (int k = 0; k < 4; k++) {
            int at = k;
            Harness.dueRefused("bits(" + k + ", 0)", x, () -> x.bits(at, 0), STATE);
            Harness.dueRefused("bits(" + k + ", 1)", x, () -> x.bits(at, 1), STATE);
        }
        Harness.dueCall("bits(4, 0)", () -> x.bits(4, 0), 0x50);
        Harness.dueCall("bits(4, 1)", () -> x.bits(4, 1), 0xf0);
    }

    private static MachineText helper(String parameters, int width, String expression) {
        MachineText x = Harness.read("word 8; def e() 1 = 0:1; def g(" + parameters + ") " + width + " = " + expression + ";");
        Harness.due("fault of " + expression, Harness.faultOf(x), "none");
        return x;
    }

    /** 8: Of node k its kind (what 0), width (1). */
    private static void nodeAnswers() {
        for (int width = 1; width <= 32; width++) {
            MachineText x = helper("p " + width, width, "~p");
            Harness.due("kind of p", x.node(1, 0), 1);
            Harness.due("width of p", x.node(1, 1), width);
            Harness.due("kind of ~p", x.node(2, 0), 8);
            Harness.due("width of ~p", x.node(2, 1), width);
        }
        Harness.due("nodes of a text without", Harness.read("word 8; reg a 8;").count(3), 0);
        // As many nodes as a full text has room for.
        MachineText x = Harness.read("word 1;def f(a 1)1=" + "~".repeat(8192 - 21) + "a;");
        Harness.due("nodes", x.count(3), 8192 - 20);
        Harness.due("the last one's part", x.node(8192 - 21, 3), 8192 - 22);
        Harness.dueCall("behind it", () -> x.node(8192 - 20, 0), INDEX);
    }

    /** 8: how many it has in it (2), the i-th of these (3 + i; NONE without). */
    private static void nodeParts() {
        String[] lists = {"0:1, 0:1", "0:1, ~0:1, 0:1", "0:1, 0:1, 0:1, e()", "0:1, 0:1, 0:1, ~0:1, 0:1", "0:1, 0:1, 0:1, 0:1, e(), 0:1"};
        int[][] parts = {{1, 2, -1, -1}, {1, 3, 4, -1}, {1, 2, 3, 4}, {1, 2, 3, 5}, {1, 2, 3, 4}};
        for (int i = 0; i < lists.length; i++) {
            MachineText x = helper("", i + 2, "cat(" + lists[i] + ")");
            int last = x.count(3) - 1;
            Harness.due("parts of " + lists[i], x.node(last, 2), i + 2);
            for (int part = 0; part < 4; part++) {
                Harness.due("part " + part + " of " + lists[i], x.node(last, 3 + part), parts[i][part]);
            }
        }
        String[] none = {"0:1", "p", "e()"};
        for (String expression : none) {
            MachineText x = helper("p 1", 1, expression);
            Harness.due("parts of " + expression, x.node(1, 2), 0);
            for (int what = 3; what <= 6; what++) {
                Harness.due("part of " + expression, x.node(1, what), -1);
            }
        }
        MachineText many = helper("", 32, "cat(0:1" + ", 1:1".repeat(31) + ")");
        Harness.due("parts of the longest cat", many.node(33, 2), 32);
        StringBuilder list = new StringBuilder("p0 1");
        for (int i = 1; i < 200; i++) {
            list.append(",p").append(i).append(" 1");
        }
        MachineText long200 = Harness.read("word 1; def f(" + list + ") 1 = p0; def g() 1 = f(0:1" + ", 0:1".repeat(199) + ");");
        Harness.due("arguments of a long call", long200.node(201, 2), 200);
        Harness.due("its fourth", long200.node(201, 6), 4);
    }

    /** 8: its number: a value (its 32 bits as an int), a slice's second one, else NONE (what -1). */
    private static void nodeNumbers() {
        String[] values = {"0", "1", "2147483647", "2147483648", "4294967295", "0x80000000", "0xffffffff", "0x7fffffff"};
        int[] due = {0, 1, MAX, MIN, -1, MIN, -1, MAX};
        for (int i = 0; i < values.length; i++) {
            Harness.due("number of " + values[i], helper("", 32, values[i] + ":32").node(1, -1), due[i]);
        }
        for (int low = 0; low <= 31; low++) {
            MachineText x = helper("p 32", 32 - low, "p.31:" + low);
            Harness.due("number of the slice to " + low, x.node(2, -1), low);
            Harness.due("width of the slice to " + low, x.node(2, 1), 32 - low);
            Harness.due("number of what is in it", x.node(1, -1), -1);
        }
        String[] others = {
            "p", "e()", "sx(p, 1)", "zx(p, 1)", "cat(p, p).0:0 + p", "~p", "-p", "p * p", "p + p", "p - p", "p << p", "p >> p",
            "p & p", "p ^ p", "p | p", "p == p", "p != p", "p < p", "p ? p : p"};
        for (String expression : others) {
            MachineText x = helper("p 1", 1, expression);
            Harness.due("number of " + expression, x.node(x.count(3) - 1, -1), -1);
        }
    }

    /** 8: IndexOutOfBoundsException, when there is no such node, or what is below -1 or above 6. */
    private static void nodeWrong() {
        for (MachineText x : objects()) {
            int size = x.count(3);
            for (int k : new int[] {-1, size, size + 1, 8192, 8193, MIN, MAX}) {
                for (int what = -1; what <= 6; what++) {
                    int w = what;
                    Harness.dueRefused("node(" + k + ", " + what + ")", x, () -> x.node(k, w), INDEX);
                }
            }
            for (int what : new int[] {-2, 7, MIN, MAX}) {
                Harness.dueRefused("node(0, " + what + ")", x, () -> x.node(0, what), INDEX);
            }
        }
    }

    /** 9: the place of the NAME in def of its k-th helper, from the told one on. */
    private static void ringAnswers() {
        for (int many = 1; many <= 300; many = many < 4 ? many + 1 : many * 3) {
            StringBuilder text = new StringBuilder("word 1;def z()1=h0();");
            int[] places = new int[many];
            for (int i = 0; i < many; i++) {
                places[i] = text.length() + 4;
                text.append("def h").append(i).append("()1=h").append((i + 1) % many).append("();");
            }
            MachineText x = Harness.read(text.toString());
            Harness.due("fault of a ring of " + many, Harness.faultOf(x), "8@" + places[0]);
            for (int k = 0; k < many; k++) {
                Harness.due("ring(" + k + ") of " + many, x.ring(k), places[k]);
            }
            int size = many;
            for (int k : new int[] {-1, size, size + 1, MIN, MAX}) {
                Harness.dueRefused("ring(" + k + ") of " + many, x, () -> x.ring(k), INDEX);
            }
        }
    }

    /** 9: (when the fault is 8). IndexOutOfBoundsException, when there is none. */
    private static void ringWithout() {
        for (MachineText x : objects()) {
            boolean ring = x.fault(0) == 8;
            for (int k : new int[] {-1, 2, 3, MIN, MAX}) {
                Harness.dueRefused("ring(" + k + ")", x, () -> x.ring(k), INDEX);
            }
            Harness.dueCall("ring(0)", () -> x.ring(0), ring ? 12 : INDEX);
            Harness.dueCall("ring(1)", () -> x.ring(1), ring ? 29 : INDEX);
        }
        // A lower fault is told, so the ring is not.
        for (String other : new String[] {"!", ";", "reg a 33;", "reg f 8;", "def h() 8 = zz;", "def h() 8 = f;"}) {
            MachineText x = Harness.read(RING + other);
            Harness.due("a lower fault than 8 of " + other, x.fault(0) > 0 && x.fault(0) < 8, true);
            Harness.dueCall("ring(0) with " + other, () -> x.ring(0), INDEX);
        }
    }

    /** 10: Prints what was read: how many bytes. */
    private static void printAnswers() {
        MachineText x = Harness.read("word 8;");
        Harness.dueCall("print() of the shortest", () -> x.print(), 8);
        Harness.dueCall("print() again", () -> x.print(), 8);
        Harness.feed(x, "!");
        Harness.dueCall("print() with another text there", () -> x.print(), 8);
        Harness.due("printed", Harness.printed(x), "word 8;\n");
        Harness.due("the text there", x.count(0), 1);
        // A full text, with two blanks for each sign.
        MachineText y = Harness.read("word 1;def f(a 1)1=aa".substring(0, 20) + "+a".repeat(4085) + ";");
        Harness.due("fault", Harness.faultOf(y), "none");
        Harness.dueCall("print() of a full one", () -> y.print(), "word 1;\ndef f(a 1) 1 = a;\n".length() + 4 * 4085);
    }

    /** 10: IllegalStateException, when nothing is. */
    private static void printRefused() {
        MachineText x = new MachineText();
        Harness.dueRefused("print() of a new object", x, () -> x.print(), STATE);
        Harness.feed(x, "word 8;");
        Harness.dueRefused("print() of a text not read", x, () -> x.print(), STATE);
        Harness.readAgain(x);
        Harness.dueCall("print()", () -> x.print(), 8);
        for (String text : FAULTY) {
            Harness.feed(x, text);
            Harness.readAgain(x);
            Harness.dueRefused("print() behind " + text, x, () -> x.print(), STATE);
            Harness.due("what was printed last", x.count(4), 8);
        }
        Harness.feed(x, "word 16;");
        Harness.readAgain(x);
        Harness.dueCall("print() behind faults", () -> x.print(), 9);
    }

    /** 11: Byte i of what was printed last. */
    private static void outAnswers() {
        MachineText x = Harness.read(SOUND);
        String[] due = {
            "word 8;\nreg a 8;\nreg R[4] 8;\nmem M[3] 8;\ndef f(x 8) 8 = x + a;\n"
                + "ins i 0101 d:4 { a = f(a); raise 1; }\n", "word 8;\n", "word 8;\nreg a 8;\n"};
        for (String text : due) {
            Harness.feed(x, text);
            Harness.readAgain(x);
            Harness.due("print()", x.print(), text.length());
            for (int i = 0; i < text.length(); i++) {
                Harness.due("out(" + i + ")", x.out(i), (int) text.charAt(i));
            }
            int size = text.length();
            Harness.dueCall("behind the last", () -> x.out(size), INDEX);
        }
    }

    /** 11: Byte i of what was printed last; 4: What was read before is gone, which is not what was printed. */
    private static void outStays() {
        String due = "word 8;\nreg a 8;\n";
        for (String text : FAULTY) {
            MachineText x = Harness.read("word 8;reg a 8;");
            x.print();
            Harness.feed(x, text);
            dueOut(x, due, "with another text there");
            Harness.readAgain(x);
            dueOut(x, due, "behind the faulty " + text);
            Harness.dueCall("print()", () -> x.print(), STATE);
            dueOut(x, due, "behind the refused print()");
            Harness.dueCall("again()", () -> x.again(), due.length());
            dueOut(x, due, "behind again()");
            Harness.dueCall("read()", () -> x.read(), 1);
            dueOut(x, due, "behind a sound read()");
            Harness.feed(x, "word 7;");
            Harness.dueCall("read()", () -> x.read(), 0);
            dueOut(x, due, "behind another sound read()");
            Harness.dueCall("print()", () -> x.print(), 8);
            dueOut(x, "word 7;\n", "behind the next print()");
        }
    }

    private static void dueOut(MachineText x, String want, String when) {
        StringBuilder all = new StringBuilder();
        for (int i = 0; i < x.count(4); i++) {
            all.append((char) x.out(i));
        }
        Harness.due("what was printed last, " + when, all, want);
    }

    /** 11: IndexOutOfBoundsException, when there is none. */
    private static void outWithout() {
        for (MachineText x : objects()) {
            int size = x.count(4);
            for (int i : new int[] {-1, size, size + 1, 8192, 16384, 16385, MIN, MAX}) {
                Harness.dueRefused("out(" + i + ")", x, () -> x.out(i), INDEX);
            }
        }
    }

    /** 12: What was printed comes as the text (what is there is gone): how many bytes. */
    private static void againAnswers() {
        MachineText x = new MachineText();
        Harness.dueCall("again() with nothing printed", () -> x.again(), 0);
        feedOne(x);
        Harness.dueCall("again() with nothing printed", () -> x.again(), 0);
        Harness.due("what was there", x.count(0), 0);
        Harness.feed(x, "word 8;reg a 8;");
        Harness.readAgain(x);
        x.print();
        Harness.feed(x, "@".repeat(100));
        Harness.dueCall("again()", () -> x.again(), 17);
        Harness.due("count(0)", x.count(0), 17);
        Harness.due("count(4)", x.count(4), 17);
        Harness.dueCall("again() once more", () -> x.again(), 17);
        Harness.dueCall("feed behind it", () -> x.feed(0x72656720, 0x6220383b, 0x20202020, 0x20202020), 33);
        Harness.dueCall("read()", () -> x.read(), 2);
        Harness.dueCall("again(), of what was printed before", () -> x.again(), 17);
        Harness.dueCall("read()", () -> x.read(), 1);
    }

    /** 12: IllegalStateException, when it is longer than 8192. */
    private static void againRefused() {
        for (int bytes : new int[] {8191, 8192}) {
            MachineText x = Harness.ofLength(bytes);
            Harness.dueCall("read()", () -> x.read(), 2);
            Harness.dueCall("print() of what was printed", () -> x.print(), bytes);
        }
        for (int bytes : new int[] {8193, 8194, 10000}) {
            String text = "word 1;reg a 1;ins i 1{";
            int body = bytes - "word 1;\nreg a 1;\nins i 1 { }\n".length();
            text += "a=~a;".repeat(body % 7) + "a=a;".repeat(body / 7 - body % 7) + "}";
            MachineText x = Harness.read(text);
            Harness.due("print()", x.print(), bytes);
            Harness.feed(x, "word 8; reg b 3;");
            Harness.dueRefused("again() of " + bytes, x, () -> x.again(), STATE);
            Harness.dueCall("read() of the text that was there", () -> x.read(), 1);
            Harness.due("its width", x.statement(0, 1), 3);
        }
    }

    /** 13: Bytes of the text, lexemes, statements, nodes of what was read (0 behind a fault), bytes printed. */
    private static void countAnswers() {
        MachineText x = new MachineText();
        dueCounts(x, "0 0 0 0 0");
        Harness.feed(x, "word ");
        dueCounts(x, "5 0 0 0 0");
        Harness.readAgain(x);
        dueCounts(x, "0 0 0 0 0");
        Harness.feed(x, "word 8;#word");
        Harness.readAgain(x);
        dueCounts(x, "0 3 0 0 0");
        x.print();
        dueCounts(x, "0 3 0 0 8");
        Harness.feed(x, "word 8;ins q d:8{}");
        Harness.readAgain(x);
        dueCounts(x, "0 10 1 0 8");
        Harness.feed(x, "word 1;def f()1=1:1;");
        Harness.readAgain(x);
        dueCounts(x, "0 13 1 1 8");
        x.again();
        dueCounts(x, "8 13 1 1 8");
        Harness.feed(x, "!");
        Harness.readAgain(x);
        dueCounts(x, "0 0 0 0 8");
        for (String text : FAULTY) {
            Harness.feed(x, SOUND);
            Harness.readAgain(x);
            Harness.feed(x, text);
            Harness.readAgain(x);
            dueCounts(x, "0 0 0 0 8");
        }
        // Nearly as many lexemes as a full text has bytes.
        MachineText y = Harness.read("word 1;def f(a 1)1=" + "~".repeat(8192 - 21) + "a;");
        Harness.due("lexemes of a full text", y.count(1), 11 + 8192 - 19);
    }

    private static void dueCounts(MachineText x, String due) {
        StringBuilder got = new StringBuilder();
        for (int what = 0; what <= 4; what++) {
            got.append(what > 0 ? " " : "").append(x.count(what));
        }
        Harness.due("counts", got, due);
    }

    /** 13: NONE for another what. */
    private static void countOther() {
        for (MachineText x : objects()) {
            for (int what : new int[] {-1, 5, 6, MIN, MAX}) {
                Harness.due("count(" + what + ")", x.count(what), MachineText.NONE);
            }
        }
    }

    /** Of several exceptions the first one told is thrown. */
    private static void severalExceptions() {
        MachineText x = new MachineText();
        Harness.dueRefused("end(17) of nothing", x, () -> x.end(17), ARGUMENT);
        Harness.dueRefused("end(-1) of nothing", x, () -> x.end(-1), ARGUMENT);
        MachineText y = Harness.read(SOUND);
        Harness.dueRefused("bits(0, 2) of a reg", y, () -> y.bits(0, 2), INDEX);
        Harness.dueRefused("bits(3, -1) of a def", y, () -> y.bits(3, -1), INDEX);
        Harness.dueRefused("bits(5, 2) of none", y, () -> y.bits(5, 2), INDEX);
    }
}
