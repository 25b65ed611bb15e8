/** Promises 4 and 5: the grammar, faults 2 and 3. */
public final class GrammarTest {
    private static final String HEAD = "word 8; reg a 8; reg b 1; reg R[4] 8; mem M[8] 8; def f(x 8) 8 = x; ";

    public static void main(String[] args) {
        statements();
        actions();
        expressions();
        deepExpressions();
        deepBodies();
        Harness.finish("GrammarTest");
    }

    private static void statements() {
        Harness.dueSound("word 8;");
        Harness.dueFaultAt(2, "$reg a 8;");
        Harness.dueFaultAt(2, "word $a;");
        Harness.dueFaultAt(2, "word 8$");
        Harness.dueFaultAt(2, "word 8 $word 8;");
        Harness.dueFaultAt(2, "word 8; $word 8;");
        Harness.dueFaultAt(2, "word 8; $;");
        Harness.dueFaultAt(2, "word 8; $a = a;");
        Harness.dueFault("word 8; reg  \n", "2@14");
        Harness.dueFaultAt(2, "word 8; reg $8;");
        Harness.dueFaultAt(2, "word 8; reg a$;");
        Harness.dueFaultAt(2, "word 8; reg a[$] 8;");
        Harness.dueFaultAt(2, "word 8; reg a[4 $8;");
        Harness.dueFaultAt(2, "word 8; reg a[4]$[4] 8;");
        Harness.dueFaultAt(2, "word 8; mem a $8;");
        Harness.dueFaultAt(2, "word 8; mem a[8] $;");
        Harness.dueSound("word 8; def f() 8 = 1:8;");
        Harness.dueFaultAt(2, "word 8; def f $8 = 1:8;");
        Harness.dueFaultAt(2, "word 8; def f(x$) 8 = x;");
        Harness.dueFaultAt(2, "word 8; def f(x 8,$) 8 = x;");
        Harness.dueFaultAt(2, "word 8; def f($,x 8) 8 = x;");
        Harness.dueFaultAt(2, "word 8; def f(x 8 $y 8) 8 = x;");
        Harness.dueFaultAt(2, "word 8; def f(x 8) $= x;");
        Harness.dueFaultAt(2, "word 8; def f(x 8) 8 $x;");
        Harness.dueFaultAt(2, "word 8; def f(x 8) 8 = x$");
        Harness.dueFaultAt(2, "word 8; def f(x 8) 8 $== x;");
        Harness.dueFaultAt(2, "word 8; ins i 00000000$;");
        Harness.dueFaultAt(2, "word 8; ins i a $8 {}");
        Harness.dueFaultAt(2, "word 8; ins i a:$b {}");
        Harness.dueFaultAt(2, "word 8; ins i 00000000 {} $;");
        Harness.dueFault("word 8; ins i 00000000 { ", "2@25");
        Harness.dueFaultAt(10, "word 8; ins $i {}");
    }

    private static void actions() {
        String ins = HEAD + "ins i 00000000 {";
        Harness.dueSound(ins + "}");
        Harness.dueSound(ins + "a = 1:8; R[0:2] = a; M[a] = a; raise 0; if b {} if b {} else {} rep n 3 { a = n; } }");
        Harness.dueFaultAt(2, ins + "$; }");
        Harness.dueFaultAt(2, ins + "$else {} }");
        Harness.dueFaultAt(2, ins + "if b {} else {} $else {} }");
        Harness.dueFaultAt(2, ins + "rep n 3 {} $else {} }");
        Harness.dueFaultAt(2, ins + "if b {} a = a; $else {} }");
        Harness.dueFaultAt(2, ins + "if b $a = a; }");
        Harness.dueFaultAt(2, ins + "if b {} else $if b {} }");
        Harness.dueFaultAt(2, ins + "if ${} }");
        Harness.dueFaultAt(2, ins + "rep $3 {} }");
        Harness.dueFaultAt(2, ins + "rep n ${} }");
        Harness.dueFaultAt(2, ins + "raise $a; }");
        Harness.dueFaultAt(2, ins + "raise 3 $}");
        Harness.dueFaultAt(2, ins + "a $+ a; }");
        Harness.dueFaultAt(2, ins + "a $(a) = a; }");
        Harness.dueFaultAt(2, ins + "a$.3:0 = a; }");
        Harness.dueFaultAt(2, ins + "R[0:2 $= a; }");
        Harness.dueFaultAt(2, ins + "R[0:2]$[0:2] = a; }");
        Harness.dueFaultAt(2, ins + "a = a $}");
        Harness.dueFaultAt(2, ins + "a = $; }");
        Harness.dueFaultAt(2, ins + "$reg c 8; }");
    }

    private static void expressions() {
        String def = "word 8; reg a 8; reg R[4] 8; def f(x 8) 8 = x; def g(b 1) 8 = ";
        for (String good : new String[] {
            "a", "(a)", "((a))", "1:8", "0xff:8", "R[1:2]", "f(a)", "sx(b, 8)", "zx(a, 8)", "cat(a.3:0, a.3:0)",
            "a.7:0", "a.7:0.7:0", "~a", "-a", "~-~a", "a * a", "a + a - a", "a << b >> b", "a & a", "a ^ a | a",
            "b ? a : a", "b ? b ? a : a : b ? a : a", "a == a ? a : a", "a < a ? f(a) : -a", "cat(b, b, b, b, a.3:0)",
            "1:8.7:0", "1:8 + 1:8"}) {
            Harness.dueSound(def + good + ";");
        }
        for (String bad : new String[] {
            "$;", "a $a;", "1$;", "1:$a;", "1 $+ a;", "a.$a;", "a.7$;", "a.7:$;", "a.7:0$:0;",
            "R[$];", "R[1:2$;", "R[1:2$, 0:2];", "f(a$;", "f(a,$);", "f($,a);", "sx(b$);",
            "sx(b, $b);", "sx(b, 8$, 8);", "sx $b;", "cat(a$);", "cat($);", "cat(a,$);", "cat(a, a,$);", "sx($, 8);",
            "a + $;", "a $~ a;", "~$;", "a * $* a;", "a == a $== a;", "a < a $!= a;", "a == a $< a ? a : a;",
            "b ? $;", "b ? a$;", "b ? a : $;", "b ? a $, a;", "b $: a;", "($);", "(a$;", "a$);", "(a$, a);",
            "$if;", "a + cat$;", "a[1:2$;", "1:8$(a);", "f(a)$(a);",
            "f(a)$[a];", "(a)$(a);", "b ? a == a $== a : a;", "a $= a;"}) {
            Harness.dueFaultAt(2, def + bad);
        }
        // What is in brackets, in a list or behind ? may have a compare of its own.
        Harness.dueSound(def + "((a == a) == (a < a)) ? a : a;");
        Harness.dueSound(def + "b == b ? a : a;");
    }

    private static String nested(String open, String inner, String close, int times) {
        return open.repeat(times) + inner + close.repeat(times);
    }

    private static void deepExpressions() {
        String def = "word 8; reg a 8; reg R[2] 1; def f(x 8) 8 = x; def g(b 1) 8 = ";
        String[][] forms = {
            {"(", "a", ")"}, {"f(", "a", ")"}, {"sx(", "a", ", 8)"}, {"b ? ", "a", " : a"},
            {"a + (", "a", ")"}, {"~(", "a", ").7:0"}};
        for (String[] form : forms) {
            Harness.dueSound(def + nested(form[0], form[1], form[2], 79) + ";");
            Harness.dueFaultAt(3, def + form[0].repeat(80) + "$" + form[1] + form[2].repeat(80) + ";");
            // Told whether the lexeme fits or not, and at the text's end.
            Harness.dueFaultAt(3, def + form[0].repeat(80) + "$;");
            Harness.dueFaultAt(3, def + form[0].repeat(80) + "$");
            Harness.dueFaultAt(2, def + form[0].repeat(79) + "$;");
            Harness.dueFaultAt(2, def + form[0].repeat(79) + form[1] + form[2].repeat(79) + " $a ((" );
        }
        Harness.dueSound(def + nested("zx(R[", "b", "], 8).0:0 == 0:1 ? a : a", 1) + ";");
        Harness.dueFaultAt(3, def + "R[".repeat(80) + "$b" + "]".repeat(80) + ";");
        // Where the first of a list or choice is in too many already, it is told.
        Harness.dueSound(def + "b ? a : ".repeat(79) + "a;");
        Harness.dueFaultAt(3, def + "b ? a : ".repeat(79) + "b ? $a : a;");
        Harness.dueFaultAt(3, def + "cat(b, ".repeat(79) + "cat($b, b" + ")".repeat(80) + ";");
        Harness.dueFaultAt(9, def + "cat(b, ".repeat(47) + "$" + "cat(b, ".repeat(32) + "b"
            + ")".repeat(79) + ";");
        // An empty list has no expression in it, and an operator's sides are none.
        String empty = "word 8; def e() 8 = 1:8; def g() 8 = ";
        Harness.dueSound(empty + nested("(", "e()", ")", 79) + ";");
        Harness.dueFaultAt(3, empty + "(".repeat(79) + "e($e())" + ")".repeat(79) + ";");
        Harness.dueSound(def + "~".repeat(900) + "a" + " + a".repeat(900) + ";");
        // Of two faults the first one is told.
        Harness.dueFaultAt(2, def + "a $a; def h() 8 = " + "(".repeat(90));
        Harness.dueFaultAt(3, def + "(".repeat(80) + "$" + "(".repeat(10) + "; ;");
    }

    private static void deepBodies() {
        String ins = "word 8; reg a 8; reg b 1; reg R[2] 8; ins i 00000000 ";
        Harness.dueSound(ins + "{if b ".repeat(79) + "{}" + "}".repeat(79));
        Harness.dueFaultAt(3, ins + "{if b ".repeat(80) + "${}" + "}".repeat(80));
        Harness.dueFaultAt(3, ins + "{if b ".repeat(80) + "$;");
        Harness.dueFaultAt(3, ins + "{if b ".repeat(80) + "$");
        Harness.dueFaultAt(2, ins + "{if b ".repeat(79) + "$;");
        String reps = "";
        for (int i = 0; i < 80; i++) {
            reps += "{rep n" + i + " 3 ";
        }
        Harness.dueFaultAt(3, ins + reps + "${}" + "}".repeat(80));
        Harness.dueSound(ins + "{if b {} else ".repeat(79) + "{}" + "}".repeat(79));
        Harness.dueFaultAt(3, ins + "{if b {} else ".repeat(79) + "{ if b ${} }" + "}".repeat(79));
        // An action's expressions stand in as many as its body.
        Harness.dueSound(ins + "{if b ".repeat(79) + "{a = a; R[b] = a;}" + "}".repeat(79));
        Harness.dueFaultAt(3, ins + "{if b ".repeat(79) + "{a = ($a);}" + "}".repeat(79));
        Harness.dueFaultAt(3, ins + "{if b ".repeat(79) + "{R[($b)] = a;}" + "}".repeat(79));
        Harness.dueFaultAt(3, ins + "{if b ".repeat(79) + "{if ($b) {}}" + "}".repeat(79));
        Harness.dueSound(ins + "{if b ".repeat(39) + "{a = " + nested("(", "a", ")", 40) + ";}" + "}".repeat(39));
        Harness.dueFaultAt(3, ins + "{if b ".repeat(39) + "{a = " + "(".repeat(41) + "$a" + ")".repeat(41) + ";}"
            + "}".repeat(39));
        Harness.dueSound(ins + "{a = " + nested("(", "a", ")", 79) + ";}");
        Harness.dueFaultAt(3, ins + "{R[" + "(".repeat(80) + "$b" + ")".repeat(80) + "] = a;}");
    }
}
