/** Promise 8: node. */
public final class NodeTest {
    private static final int NONE = MachineText.NONE;
    private static final String HEAD = "word 8; reg a 8; reg b 1; reg R[4] 8; mem M[8] 8; "
        + "def f(x 8, y 1) 8 = 7:8; def e() 3 = 2:3; def five(p 1, q 1, r 1, s 1, t 1) 1 = 0:1; ";

    public static void main(String[] args) {
        kinds();
        order();
        parts();
        numbers();
        wrong();
        Harness.finish("NodeTest");
    }

    /** The nodes of a helper's expression; those of the head's three helpers come before. */
    private static MachineText nodesOf(int width, String expression) {
        String text = HEAD + "def g(v 4) " + width + " = " + expression + ";";
        MachineText x = Harness.read(text);
        Harness.due("fault of " + text, Harness.faultOf(x), "none");
        return x;
    }

    /** Kind, width and parts of the last node. */
    private static void dueLast(int width, String expression, int kind, int... parts) {
        MachineText x = nodesOf(width, expression);
        int last = x.count(3) - 1;
        Harness.due("kind of " + expression, x.node(last, 0), kind);
        Harness.due("width of " + expression, x.node(last, 1), width);
        Harness.due("parts of " + expression, x.node(last, 2), parts.length);
        for (int i = 0; i < 4; i++) {
            int due = i < parts.length ? parts[i] : NONE;
            Harness.due("part " + i + " of " + expression, x.node(last, 3 + i), due);
        }
    }

    private static void kinds() {
        dueLast(8, "5:8", 0);
        dueLast(8, "a", 1);
        dueLast(4, "v", 1);
        dueLast(8, "R[1:2]", 2, 3);
        dueLast(8, "M[a]", 2, 3);
        dueLast(8, "f(a, b)", 3, 3, 4);
        dueLast(3, "e()", 3);
        dueLast(32, "sx(a, 32)", 4, 3);
        dueLast(8, "zx(a, 8)", 5, 3);
        dueLast(9, "cat(a, b)", 6, 3, 4);
        dueLast(32, "cat(a, a, a, a)", 6, 3, 4, 5, 6);
        dueLast(5, "a.6:2", 7, 3);
        dueLast(8, "~a", 8, 3);
        dueLast(8, "-a", 9, 3);
        String[] signs = {"*", "+", "-", "<<", ">>", "&", "^", "|"};
        for (int i = 0; i < signs.length; i++) {
            dueLast(4, "v " + signs[i] + " v", 10 + i, 3, 4);
        }
        dueLast(1, "a == a", 18, 3, 4);
        dueLast(1, "a != a", 19, 3, 4);
        dueLast(1, "a < a", 20, 3, 4);
        dueLast(8, "b ? a : 1:8", 21, 3, 4, 5);
        dueLast(4, "v << a", 13, 3, 4);
        dueLast(8, "((a))", 1);
    }

    private static void dueOrder(int width, String expression, int... kinds) {
        MachineText x = nodesOf(width, expression);
        StringBuilder got = new StringBuilder();
        StringBuilder due = new StringBuilder();
        for (int k = 3; k < x.count(3); k++) {
            got.append(x.node(k, 0)).append(' ');
        }
        for (int kind : kinds) {
            due.append(kind).append(' ');
        }
        Harness.due("kinds of " + expression, got, due);
    }

    private static void order() {
        dueOrder(8, "a + 1:8 * a", 1, 0, 1, 10, 11);
        dueOrder(8, "a * 1:8 + a", 1, 0, 10, 1, 11);
        dueOrder(8, "a - 1:8 - a", 1, 0, 12, 1, 12);
        dueOrder(8, "a - (1:8 - a)", 1, 0, 1, 12, 12);
        dueOrder(8, "~-a.7:0", 1, 7, 9, 8);
        dueOrder(8, "(~-a).7:0", 1, 9, 8, 7);
        dueOrder(8, "-a * ~1:8", 1, 9, 0, 8, 10);
        dueOrder(8, "a | a ^ a & a << a + a * -a", 1, 1, 1, 1, 1, 1, 1, 9, 10, 11, 13, 15, 16, 17);
        dueOrder(8, "a * a + a << a & a ^ a | a", 1, 1, 10, 1, 11, 1, 13, 1, 15, 1, 16, 1, 17);
        dueOrder(1, "a + a == a | a", 1, 1, 11, 1, 1, 17, 18);
        dueOrder(8, "a == a ? b ? a : 0:8 : a + a", 1, 1, 18, 1, 1, 0, 21, 1, 1, 11, 21);
        dueOrder(8, "f(f(a, 0:1), a < a)", 1, 0, 3, 1, 1, 20, 3);
        dueOrder(8, "M[R[0:2]]", 0, 2, 2);
        // Statements one behind the other, an action's index before its value.
        MachineText x = Harness.read("word 8; mem M[8] 8; reg a 8; ins i 00000000 { M[a] = 1:8; if a == a { a = -a; } }"
            + " def g() 2 = 3:2;");
        int[] due = {1, 0, 1, 1, 18, 1, 9, 0};
        Harness.due("nodes", x.count(3), due.length);
        for (int k = 0; k < due.length; k++) {
            Harness.due("kind of " + k, x.node(k, 0), due[k]);
        }
        Harness.due("nodes of i", x.statement(2, 4), 7);
        Harness.due("nodes of g", x.statement(3, 4), 1);
    }

    /** Of more than four parts only the first four can be asked for. */
    private static void parts() {
        MachineText x = nodesOf(1, "five(b, b.0:0, b, ~b, a == a)");
        int last = x.count(3) - 1;
        Harness.due("parts", x.node(last, 2), 5);
        int[] due = {3, 5, 6, 8};
        for (int i = 0; i < 4; i++) {
            Harness.due("part " + i, x.node(last, 3 + i), due[i]);
        }
        MachineText y = nodesOf(6, "cat(b, b, b, b, b, b)");
        Harness.due("parts", y.node(y.count(3) - 1, 2), 6);
    }

    private static void dueNumber(int width, String expression, int number) {
        MachineText x = nodesOf(width, expression);
        Harness.due("number of " + expression, x.node(x.count(3) - 1, -1), number);
    }

    private static void numbers() {
        dueNumber(8, "200:8", 200);
        dueNumber(1, "0:1", 0);
        dueNumber(32, "0xffffffff:32", -1);
        dueNumber(32, "2147483648:32", Integer.MIN_VALUE);
        dueNumber(32, "4294967294:32", -2);
        dueNumber(5, "a.6:2", 2);
        dueNumber(1, "a.0:0", 0);
        dueNumber(8, "a", NONE);
        dueNumber(32, "sx(a, 32)", NONE);
        dueNumber(16, "cat(a, a)", NONE);
        dueNumber(8, "a + a", NONE);
        dueNumber(8, "R[0:2]", NONE);
        dueNumber(3, "e()", NONE);
    }

    private static void wrong() {
        MachineText x = nodesOf(8, "a");
        int[][] wrong = {
            {-1, 0}, {4, 0}, {3, -2}, {3, 7}, {3, 8}, {Integer.MAX_VALUE, 0}, {Integer.MIN_VALUE, 0},
            {3, Integer.MAX_VALUE}, {3, Integer.MIN_VALUE}};
        for (int[] w : wrong) {
            Harness.dueCall("node(" + w[0] + ", " + w[1] + ")", () -> x.node(w[0], w[1]), "IndexOutOfBoundsException");
        }
    }
}
