import java.util.List;

/** All promises: the class and the model answer alike on texts made from fixed seeds. */
public final class ModelTest {
    private static final int TEXTS = 6000;

    private static final int[] seen = new int[11];

    public static void main(String[] args) {
        int texts = args.length > 0 ? Integer.parseInt(args[0]) : TEXTS;
        for (int seed = 1; seed <= texts && Harness.wrongAnswers() < 20; seed++) {
            Maker maker = new Maker(seed);
            List<String> lexemes = seed % 20 == 0 ? maker.deepLexemes() : maker.lexemes();
            maker.spoil(lexemes, seed % 3 == 0 ? 0 : seed % 3 == 1 ? 1 : 3);
            String text = maker.join(lexemes);
            if (text.length() <= 8000) {
                compare("seed " + seed + ": ", text);
            }
        }
        for (int number = 0; number <= 10; number++) {
            Harness.due("texts with fault " + number, seen[number] > 0, true);
        }
        if (args.length > 0) {
            System.out.println(java.util.Arrays.toString(seen));
        }
        Harness.finish("ModelTest");
    }

    private static void compare(String name, String text) {
        int before = Harness.wrongAnswers();
        Model m = new Model(text);
        MachineText x = Harness.read(text);
        seen[m.fault()]++;
        Harness.due(name + "fault", Harness.faultOf(x),
            m.fault() == 0 ? "none" : m.fault() + "@" + m.place());
        for (int k = 0; k < m.ring.size(); k++) {
            int at = k;
            Harness.dueCall(name + "ring " + k, () -> x.ring(at), m.ring.get(k));
        }
        Harness.dueCall(name + "ring's end", () -> x.ring(m.ring.size()), "IndexOutOfBoundsException");
        if (m.fault() == 0 && x.fault(0) == 0) {
            compareCounts(name, x, m);
            compareStatements(name, x, m);
            compareNodes(name, x, m);
            comparePrints(name, x, m);
        }
        if (Harness.wrongAnswers() > before) {
            System.out.println(text);
        }
    }

    private static void compareCounts(String name, MachineText x, Model m) {
        Harness.due(name + "count(1)", x.count(1), m.lexemes.size());
        Harness.due(name + "count(2)", x.count(2), m.statements.size());
        Harness.due(name + "count(3)", x.count(3), m.nodes.size());
    }

    private static void compareStatements(String name, MachineText x, Model m) {
        for (int k = 0; k < m.statements.size(); k++) {
            Model.Statement s = m.statements.get(k);
            int kind = List.of("reg", "mem", "def", "ins").indexOf(s.kind);
            int[] due = {kind, s.width, s.amount, s.actions, s.nodes.size()};
            for (int what = 0; what < due.length; what++) {
                Harness.due(name + "statement(" + k + ", " + what + ")", x.statement(k, what), due[what]);
            }
            if (kind == 3) {
                long ones = Long.parseUnsignedLong(s.mask.toString().replace('x', '0'), 2);
                long told = Long.parseUnsignedLong(s.mask.toString().replace('0', '1').replace('x', '0'), 2);
                Harness.due(name + "bits(" + k + ", 0)", x.bits(k, 0), ones);
                Harness.due(name + "bits(" + k + ", 1)", x.bits(k, 1), told);
            }
        }
    }

    private static void compareNodes(String name, MachineText x, Model m) {
        for (int k = 0; k < m.nodes.size(); k++) {
            Model.Node n = m.nodes.get(k);
            int[] due = {(int) n.number, Model.kindNumber(n), n.width, n.parts.size(), -1, -1, -1, -1};
            for (int i = 0; i < 4 && i < n.parts.size(); i++) {
                due[4 + i] = n.parts.get(i).index;
            }
            for (int what = -1; what <= 6; what++) {
                Harness.due(name + "node(" + k + ", " + what + ")", x.node(k, what), due[what + 1]);
            }
        }
    }

    private static void comparePrints(String name, MachineText x, Model m) {
        String printed = Harness.printed(x);
        Harness.due(name + "print", printed, m.printed());
        int nodes = x.count(3);
        if (x.count(4) <= 8192) {
            Harness.due(name + "again", x.again(), printed.length());
            Harness.readAgain(x);
            Harness.due(name + "the fault of what was printed", Harness.faultOf(x), "none");
            Harness.due(name + "nodes of what was printed", x.count(3), nodes);
            if (x.fault(0) == 0) {
                Harness.due(name + "print again", Harness.printed(x), printed);
            }
        }
    }
}
