/** Promises 4, 6 and 13: read, statement and count. */
public final class ReadTest {
    private static final String TEXT = "word 16; reg a 8; reg R[64] 32; mem M[20] 1; def f() 5 = 1:5;"
        + " def g(x 8, y 8, z 1) 8 = z ? x + y : x.7:0; ins i 0000 d:12 {} "
        + "ins j 1 s:15 { a = a; if a == 1:8 { raise 3; R[0:6] = 0:32; } else { rep n 2 { a = n; } } M[0:20] = 1:1; }";

    public static void main(String[] args) {
        statements();
        counts();
        replaced();
        Harness.finish("ReadTest");
    }

    private static void statements() {
        MachineText x = new MachineText();
        Harness.feed(x, TEXT);
        Harness.dueCall("read()", () -> x.read(), 7);
        int[][] due = {
            {0, 8, 0, 0, 0}, {0, 32, 64, 0, 0}, {1, 1, 20, 0, 0}, {2, 5, 0, 0, 1}, {2, 8, 3, 0, 7},
            {3, 16, 2, 0, 0}, {3, 16, 2, 7, 9}};
        for (int k = 0; k < due.length; k++) {
            for (int what = 0; what < 5; what++) {
                Harness.due("statement(" + k + ", " + what + ")", x.statement(k, what), due[k][what]);
            }
        }
        int[][] wrong = {
            {-1, 0}, {7, 0}, {0, -1}, {0, 5}, {Integer.MIN_VALUE, 0}, {Integer.MAX_VALUE, 0},
            {0, Integer.MIN_VALUE}, {0, Integer.MAX_VALUE}};
        for (int[] w : wrong) {
            Harness.dueCall("statement(" + w[0] + ", " + w[1] + ")", () -> x.statement(w[0], w[1]),
                "IndexOutOfBoundsException");
        }
    }

    private static void counts() {
        MachineText x = new MachineText();
        Harness.feed(x, TEXT);
        Harness.due("count(0)", x.count(0), TEXT.length());
        Harness.due("count(1) before read", x.count(1), 0);
        Harness.readAgain(x);
        int[] due = {0, new Model(TEXT).lexemes.size(), 7, 17, 0};
        for (int what = 0; what < due.length; what++) {
            Harness.due("count(" + what + ")", x.count(what), due[what]);
        }
        Harness.due("count(4)", x.print(), x.count(4));
        for (int what : new int[] {-1, 5, Integer.MIN_VALUE, Integer.MAX_VALUE}) {
            Harness.due("count(" + what + ")", x.count(what), MachineText.NONE);
        }
        // Feeding leaves what was read alone.
        x.feed(1, 2, 3, 4);
        Harness.due("count(0)", x.count(0), 16);
        Harness.due("count(2)", x.count(2), 7);
        Harness.due("count(3)", x.count(3), 17);
    }

    /** What was read before is gone, behind a fault as well. */
    private static void replaced() {
        MachineText x = Harness.read(TEXT);
        int printed = x.print();
        Harness.feed(x, "word 8; reg b 4;");
        Harness.dueCall("read()", () -> x.read(), 1);
        Harness.due("statement(0, 1)", x.statement(0, 1), 4);
        Harness.dueCall("statement(1, 0)", () -> x.statement(1, 0), "IndexOutOfBoundsException");
        Harness.dueCall("node(0, 0)", () -> x.node(0, 0), "IndexOutOfBoundsException");
        Harness.due("count(4), still of the first text", x.count(4), printed);
        for (String text : new String[] {"word 8; reg c 4; @", "word 8; reg c 4; ;", "word 8; reg c 99;",
            "word 8; def f() 8 = f();", "word 8; ins i {}", ""}) {
            Harness.feed(x, "word 8; reg b 4;");
            Harness.readAgain(x);
            Harness.feed(x, text);
            Harness.dueCall("read() of " + text, () -> x.read(), "IllegalArgumentException");
            for (int what = 0; what < 4; what++) {
                Harness.due("count(" + what + ") behind a fault", x.count(what), 0);
            }
            Harness.dueCall("statement(0, 0)", () -> x.statement(0, 0), "IndexOutOfBoundsException");
            Harness.dueCall("bits(0, 0)", () -> x.bits(0, 0), "IndexOutOfBoundsException");
            Harness.dueCall("node(0, 0)", () -> x.node(0, 0), "IndexOutOfBoundsException");
            Harness.dueCall("print()", () -> x.print(), "IllegalStateException");
            Harness.due("count(4)", x.count(4), printed);
        }
        Harness.feed(x, "word 9;");
        Harness.dueCall("read() without statements", () -> x.read(), 0);
        Harness.due("printed", Harness.printed(x), "word 9;\n");
        Harness.due("names are forgotten", Harness.faultOf(x), "none");
    }
}
