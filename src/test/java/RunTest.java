import java.nio.charset.StandardCharsets;
import java.util.ArrayList;
import java.util.List;
import java.util.Random;

/** All promises beside one another: runs of calls in any order on one object, each answer compared with the model's. */
public final class RunTest {
    private static final int RUNS = 400;
    private static final int CALLS = 512;
    private static final int LIMIT = 8192;
    private static final String INDEX = "IndexOutOfBoundsException";
    private static final String STATE = "IllegalStateException";
    private static final String ARGUMENT = "IllegalArgumentException";

    private final Random random;
    private final long seed;
    private final MachineText x = new MachineText();
    private int calls;
    // What the document says that there is: the text, what was read last (null before), what was printed last.
    private String text = "";
    private Model last;
    private String printed = "";

    private RunTest(long seed) {
        this.seed = seed;
        random = new Random(seed);
    }

    public static void main(String[] args) {
        int runs = args.length > 0 ? Integer.parseInt(args[0]) : RUNS;
        for (int seed = 1; seed <= runs && Harness.wrongAnswers() < 20; seed++) {
            new RunTest(seed).run();
        }
        Harness.finish("RunTest");
    }

    private void run() {
        while (calls < CALLS) {
            switch (random.nextInt(40)) {
                case 0, 1 -> feedText(madeText());
                case 2 -> feed(random.nextInt(), random.nextInt(), random.nextInt(), random.nextInt());
                case 3 -> end(random.nextInt(-1, 18));
                case 4, 5, 6 -> read();
                case 7, 8, 9 -> print();
                case 10, 11 -> again();
                default -> ask();
            }
        }
    }

    private void due(String name, Harness.Call call, Object want) {
        calls++;
        Harness.dueCall("seed " + seed + ", call " + calls + ": " + name, call, want);
    }

    private String madeText() {
        Maker maker = new Maker(random.nextInt(1 << 20));
        List<String> lexemes = maker.lexemes();
        maker.spoil(lexemes, random.nextInt(3) == 0 ? 1 : 0);
        String made = maker.join(lexemes);
        // A text that takes all of a run's calls leaves none for anything else.
        return made.length() <= 1500 ? made : "word 8; reg a 8; ins i 0101 d:4 { a = (a + a); }";
    }

    private void feedText(String made) {
        byte[] bytes = made.getBytes(StandardCharsets.ISO_8859_1);
        for (int i = 0; i < bytes.length && calls < CALLS; i += 16) {
            int[] four = new int[4];
            for (int k = 0; k < 16; k++) {
                four[k / 4] = four[k / 4] << 8 | (i + k < bytes.length ? bytes[i + k] & 255 : 0);
            }
            boolean fits = text.length() + 16 <= LIMIT;
            feed(four[0], four[1], four[2], four[3]);
            if (fits && bytes.length - i < 16) {
                end(bytes.length - i);
            }
        }
    }

    private void feed(int a, int b, int c, int d) {
        boolean fits = text.length() + 16 <= LIMIT;
        due("feed", () -> x.feed(a, b, c, d), fits ? text.length() + 16 : STATE);
        if (fits) {
            StringBuilder more = new StringBuilder(text);
            for (int four : new int[] {a, b, c, d}) {
                more.append((char) (four >>> 24)).append((char) (four >>> 16 & 255));
                more.append((char) (four >>> 8 & 255)).append((char) (four & 255));
            }
            text = more.toString();
        }
    }

    private void end(int n) {
        boolean right = n >= 0 && n <= 16;
        boolean enough = text.length() >= 16;
        due("end(" + n + ")", () -> x.end(n), !right ? ARGUMENT : !enough ? STATE : text.length() - 16 + n);
        if (right && enough) {
            text = text.substring(0, text.length() - 16 + n);
        }
    }

    private void read() {
        last = new Model(text);
        text = "";
        due("read()", () -> x.read(), last.fault() == 0 ? last.statements.size() : ARGUMENT);
    }

    private boolean isKnown() {
        return last != null && last.fault() == 0;
    }

    private void print() {
        if (isKnown()) {
            printed = last.printed();
        }
        due("print()", () -> x.print(), isKnown() ? printed.length() : STATE);
    }

    private void again() {
        boolean fits = printed.length() <= LIMIT;
        due("again()", () -> x.again(), fits ? printed.length() : STATE);
        if (fits) {
            text = printed;
        }
    }

    /** Mostly one that is there, now and then one beside them. */
    private int index(int size) {
        return random.nextInt(12) == 0 ? size : random.nextInt(12) == 0 ? -1 : random.nextInt(size + 1);
    }

    private void ask() {
        switch (random.nextInt(7)) {
            case 0 -> fault();
            case 1 -> statement();
            case 2 -> bits();
            case 3 -> node();
            case 4 -> ring();
            case 5 -> out();
            default -> count();
        }
    }

    private void fault() {
        int what = random.nextInt(-1, 3);
        int number = last == null ? 0 : last.fault();
        // The document does not say which place a fault has that is none.
        if (what == 1 && number == 0) {
            return;
        }
        due("fault(" + what + ")", () -> x.fault(what), what == 0 ? number : what == 1 ? last.place() : INDEX);
    }

    private List<Model.Statement> statements() {
        return isKnown() ? last.statements : new ArrayList<>();
    }

    private void statement() {
        int k = index(statements().size());
        int what = random.nextInt(-1, 6);
        Object want = INDEX;
        if (k >= 0 && k < statements().size() && what >= 0 && what <= 4) {
            Model.Statement s = statements().get(k);
            int kind = List.of("reg", "mem", "def", "ins").indexOf(s.kind);
            want = new int[] {kind, s.width, s.amount, s.actions, s.nodes.size()}[what];
        }
        due("statement(" + k + ", " + what + ")", () -> x.statement(k, what), want);
    }

    private void bits() {
        int k = index(statements().size());
        int what = random.nextInt(-1, 3);
        Object want = INDEX;
        if (k >= 0 && k < statements().size() && what >= 0 && what <= 1) {
            Model.Statement s = statements().get(k);
            String mask = what == 0 ? s.mask.toString() : s.mask.toString().replace('0', '1');
            want = s.kind.equals("ins") ? Long.parseUnsignedLong(mask.replace('x', '0'), 2) : STATE;
        }
        due("bits(" + k + ", " + what + ")", () -> x.bits(k, what), want);
    }

    private void node() {
        List<Model.Node> nodes = isKnown() ? last.nodes : new ArrayList<>();
        int k = index(nodes.size());
        int what = random.nextInt(-2, 8);
        Object want = INDEX;
        if (k >= 0 && k < nodes.size() && what >= -1 && what <= 6) {
            Model.Node n = nodes.get(k);
            int i = what - 3;
            int part = i >= 0 && i < n.parts.size() ? n.parts.get(i).index : MachineText.NONE;
            want = switch (what) {
                case -1 -> (int) n.number;
                case 0 -> Model.kindNumber(n);
                case 1 -> n.width;
                case 2 -> n.parts.size();
                default -> part;
            };
        }
        due("node(" + k + ", " + what + ")", () -> x.node(k, what), want);
    }

    private void ring() {
        int size = last == null ? 0 : last.ring.size();
        int k = index(size);
        due("ring(" + k + ")", () -> x.ring(k), k >= 0 && k < size ? last.ring.get(k) : INDEX);
    }

    private void out() {
        int i = index(printed.length());
        boolean there = i >= 0 && i < printed.length();
        due("out(" + i + ")", () -> x.out(i), there ? (int) printed.charAt(i) : INDEX);
    }

    private void count() {
        int what = random.nextInt(-1, 6);
        Object want = switch (what) {
            case 0 -> text.length();
            case 1 -> isKnown() ? last.lexemes.size() : 0;
            case 2 -> statements().size();
            case 3 -> isKnown() ? last.nodes.size() : 0;
            case 4 -> printed.length();
            default -> MachineText.NONE;
        };
        due("count(" + what + ")", () -> x.count(what), want);
    }
}
