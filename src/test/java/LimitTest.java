import java.util.Random;

/** Promises 2 to 13 at the limit: texts as long and as dense as can be, and texts of any bytes. */
public final class LimitTest {
    private static final int LIMIT = 8192;

    private static volatile boolean done = false;

    /** The model goes down thousands of calls on a long text, so it needs a large stack. */
    public static void main(String[] args) throws InterruptedException {
        Thread thread = new Thread(null, () -> {
            dense();
            soups();
            done = true;
        }, "large", 1L << 29);
        thread.start();
        thread.join();
        Harness.due("all texts compared", done, true);
        reused();
        longest();
        Harness.finish("LimitTest");
    }

    /** As often as it fits behind the head and before the tail. */
    private static String full(String head, String unit, String tail) {
        return head + unit.repeat((LIMIT - head.length() - tail.length()) / unit.length()) + tail;
    }

    private static void compare(String text) {
        Model m = new Model(text);
        MachineText x = Harness.read(text);
        String name = text.substring(0, Math.min(60, text.length())) + "..";
        Harness.due("fault of " + name, Harness.faultOf(x), m.fault() == 0 ? "none" : m.fault() + "@" + m.place());
        if (m.fault() != 0 || x.fault(0) != 0) {
            return;
        }
        Harness.due("lexemes of " + name, x.count(1), m.lexemes.size());
        Harness.due("nodes of " + name, x.count(3), m.nodes.size());
        Harness.due("print of " + name, Harness.printed(x), m.printed());
        Harness.dueCall("again() of " + name, () -> x.again(),
            m.printed().length() <= LIMIT ? m.printed().length() : "IllegalStateException");
    }

    private static void dense() {
        String def = "word 1;def f(a 1)1=";
        String ins = "word 1;reg a 1;def f()1=1:1;ins i 1{";
        for (String sign : ";,.=(){}[]:?+-*&|^~<!>a1# \n".split("")) {
            compare(full("", sign, ""));
            compare(full("word 1;", sign, ""));
            compare(full(def, sign, ""));
            compare(full(ins, sign, ""));
        }
        for (String unit : "~ - (a)+ a+ a- a* a.0:0+ a?a: (a? a<< f(a)+ cat(a,a)+".split(" ")) {
            compare(full(def, unit, "a;"));
            compare(full(def, unit, ""));
        }
        compare(full(def + "a", ".0:0", ";"));
        compare(full("word 1;def f()1=1:1;def g()1=f()", "+f()", ";"));
        compare(full("word 1;def f()1=f()", "+f()", ";"));
        compare(full("word 1;def f()1=cat(1:1", ",1:1", ");"));
        for (String unit : new String[] {"a=a;", "raise 1;", "if a{}", "if a{}else{}", "rep n 1{}", "a=f();", "{", "}"}) {
            compare(full(ins, unit, "}"));
            compare(full(ins, unit, ""));
        }
        compare(full("word 1;", "ins i{}", ""));
        compare(full("word 1;", "reg a 1;", ""));
        compare(full("word 1;ins i", " 1", "{}"));
        compare(full("word 1;ins i", " a:1", "{}"));
        compare(full("word 1;def f(a 1", ",a 1", ")1=a;"));
        manyNames();
        manyHelpers();
    }

    private static String shortName(int i) {
        // Without i, s and z, so that none is a word.
        String letters = "ABCDEFGHIJKLMNOPQRSTUVWXYZ_abcdefghjklmnopqrtuvwxy";
        return "" + letters.charAt(i / 50 % 50) + letters.charAt(i % 50);
    }

    private static void manyNames() {
        StringBuilder text = new StringBuilder("word 1;ins i");
        for (int i = 0; text.length() < LIMIT - 8; i++) {
            text.append(i % 2 == 0 ? " " : "").append(shortName(i)).append(i % 2 == 0 ? ":1" : ":1 ");
        }
        compare(text + "{}");
        StringBuilder soup = new StringBuilder("word 1;def f()1=1:1");
        for (int i = 0; soup.length() < LIMIT - 8; i++) {
            soup.append("+").append(shortName(i));
        }
        compare(soup + ";");
    }

    /** A chain of helpers as long as can be: without a ring, and with the last one calling the first. */
    private static void manyHelpers() {
        StringBuilder text = new StringBuilder("word 1;");
        int i = 0;
        while (text.length() < LIMIT - 40) {
            text.append("def ").append(shortName(i)).append("()1=").append(shortName(i + 1)).append("();");
            i++;
        }
        compare(text + "def " + shortName(i) + "()1=1:1;");
        String ring = text + "def " + shortName(i) + "()1=AA();";
        MachineText x = Harness.read(ring);
        Harness.due("fault of a long ring", Harness.faultOf(x), "8@11");
        int helpers = i + 1;
        Harness.dueCall("its last helper", () -> x.ring(helpers - 1), ring.lastIndexOf("def ") + 4);
        Harness.dueCall("behind it", () -> x.ring(helpers), "IndexOutOfBoundsException");
    }

    /** Any bytes, and any lexemes one behind the other. */
    private static void soups() {
        Random random = new Random(7);
        String[] lexemes = ("word reg mem def ins if else rep raise sx zx cat a b f 0 1 8 33 0x1f ; , . = ( ) { } [ ] : ? + "
            + "- * & | ^ ~ < == != << >> a1_ 01 # ! @").split(" ");
        for (int turn = 0; turn < 3000; turn++) {
            StringBuilder text = new StringBuilder(turn % 3 == 0 ? "" : "word 8; reg a 8; def f(b 8) 8 = ");
            int many = random.nextInt(40);
            for (int i = 0; i < many; i++) {
                if (turn % 5 == 0) {
                    text.append((char) random.nextInt(256));
                } else {
                    text.append(lexemes[random.nextInt(lexemes.length)]).append(random.nextInt(3) == 0 ? "" : " ");
                }
            }
            compare(text.toString());
        }
    }

    /** One object reads many texts, and answers like a new one each time. */
    private static void reused() {
        MachineText x = new MachineText();
        for (int seed = 1; seed <= 400; seed++) {
            Maker maker = new Maker(seed);
            java.util.List<String> lexemes = maker.lexemes();
            maker.spoil(lexemes, seed % 2);
            String text = maker.join(lexemes);
            if (text.length() > 8000) {
                continue;
            }
            Harness.feed(x, text);
            Harness.readAgain(x);
            MachineText fresh = Harness.read(text);
            Harness.due("fault", Harness.faultOf(x), Harness.faultOf(fresh));
            for (int what = 0; what < 4; what++) {
                Harness.due("count(" + what + ")", x.count(what), fresh.count(what));
            }
            if (fresh.fault(0) == 0) {
                Harness.due("printed", Harness.printed(x), Harness.printed(fresh));
            }
        }
    }

    /** The longest print: a sign with a blank on both sides for every two bytes. */
    private static void longest() {
        MachineText x = Harness.read(full("word 1;def f(a 1)1=a", "+a", ";"));
        Harness.due("fault", Harness.faultOf(x), "none");
        int bytes = x.print();
        Harness.due("longest print", bytes > 16300 && bytes <= 16384, true);
        Harness.due("its last byte", x.out(bytes - 1), 10);
        Harness.due("the one before", x.out(bytes - 2), (int) ';');
        Harness.dueCall("behind it", () -> x.out(bytes), "IndexOutOfBoundsException");
    }
}
