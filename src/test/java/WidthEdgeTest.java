/**
 * The bounds that 'Terms' names for the faults 9 WIDTH and 10 BITS, the faults' order, and the order
 * of nodes. Before each method stands the sentence that would be broken.
 */
public final class WidthEdgeTest {
    public static void main(String[] args) {
        sides();
        choices();
        slices();
        extensions();
        cats();
        registerIndexes();
        memoryIndexes();
        arguments();
        shifts();
        reps();
        innerOnes();
        places();
        actionIndexes();
        assignments();
        conditions();
        helpers();
        bracketed();
        bits();
        order();
        nodes();
        Harness.finish("WidthEdgeTest");
    }

    /** A helper with parameters of two widths, and what it is, of which $ marks a fault's place. */
    private static void dueOf(int p, int q, int width, String expression) {
        String text = "word 8; def f(p " + p + ", q " + q + ", b 1) " + width + " = " + expression + ";";
        if (expression.contains("$")) {
            Harness.dueFaultAt(9, text);
        } else {
            Harness.dueSound(text);
        }
    }

    /** An expression that is wrong itself: as an index, so that nothing else can be told by its first lexeme. */
    private static void dueWrong(int p, int q, String marked) {
        for (int width = 1; width <= 20; width += 19) {
            Harness.dueFaultAt(9, "word 8; mem M[" + width + "] 1; def f(p " + p + ", q " + q + ", b 1) 1 = M[" + marked + "];");
        }
    }

    /** + - * & | ^ and compares: both sides of one width; compares 1, others their sides'. */
    private static void sides() {
        for (String sign : "+ - * & | ^ == != <".split(" ")) {
            boolean compare = "== != <".contains(sign);
            for (int width = 1; width <= 32; width++) {
                dueOf(width, width, compare ? 1 : width, "p " + sign + " q");
                if (width < 32) {
                    dueWrong(width, width + 1, "$p " + sign + " q");
                    dueWrong(width + 1, width, "$p " + sign + " q");
                }
            }
            dueWrong(1, 32, "$p " + sign + " q");
        }
    }

    /** ? : the first one of width 1, the others of one width. */
    private static void choices() {
        for (int width = 1; width <= 32; width++) {
            dueOf(width, width, width, "b ? p : q");
            if (width > 1) {
                dueWrong(width, width, "$p ? p : q");
            }
            if (width < 32) {
                dueWrong(width, width + 1, "$b ? p : q");
                dueWrong(width + 1, width, "$b ? p : q");
            }
        }
    }

    /** a slice: the first NUMBER below the width; its width first - second + 1. */
    private static void slices() {
        for (int width = 1; width <= 32; width++) {
            dueOf(width, 1, width, "p." + (width - 1) + ":0");
            dueOf(width, 1, 1, "p." + (width - 1) + ":" + (width - 1));
            dueOf(width, 1, 1, "p.0:0");
            if (width < 32) {
                dueWrong(width, 1, "$p." + width + ":" + width);
                dueWrong(width, 1, "$p." + width + ":0");
                dueWrong(width, 1, "$p.31:31");
                dueOf(32, 1, width + 1, "$p." + (width - 1) + ":0");
                dueWrong(32, 1, "$p." + (width - 1) + ":0." + width + ":" + width);
            }
        }
        dueOf(32, 1, 32, "p.31:0");
        dueOf(32, 1, 31, "p.31:1");
        dueOf(32, 1, 2, "p.31:4.5:4");
    }

    /** sx zx: the NUMBER not below the width. */
    private static void extensions() {
        for (String word : new String[] {"sx", "zx"}) {
            for (int width = 1; width <= 32; width++) {
                dueOf(width, 1, width, word + "(p, " + width + ")");
                dueOf(width, 1, 32, word + "(p, 32)");
                if (width > 1) {
                    dueWrong(width, 1, "$" + word + "(p, " + (width - 1) + ")");
                    dueWrong(width, 1, "$" + word + "(p, 1)");
                }
            }
        }
    }

    /** cat: at most 32 together; the sum. */
    private static void cats() {
        for (int width = 1; width < 32; width++) {
            dueOf(width, 32 - width, 32, "cat(p, q)");
            dueWrong(width, 33 - width, "$cat(p, q)");
            dueWrong(width, 32 - width, "$cat(p, q, b)");
            if (width <= 16) {
                dueOf(width, width, 2 * width, "cat(p, q)");
            } else {
                dueWrong(width, width, "$cat(p, q)");
            }
        }
        dueWrong(32, 1, "$cat(p, q)");
        dueWrong(32, 32, "$cat(p, q)");
        dueOf(1, 1, 32, "cat(p" + ", q".repeat(31) + ")");
        dueWrong(1, 1, "$cat(p" + ", q".repeat(32) + ")");
        dueWrong(32, 32, "$cat(p" + ", q".repeat(1000) + ")");
        // A sum of 64, 96 and so on must not come to be right again.
        dueWrong(32, 31, "$cat(p, p, p, q, b)");
    }

    /** an index: of a reg as many bits as it takes. */
    private static void registerIndexes() {
        for (int takes = 1; takes <= 6; takes++) {
            for (int width = 1; width <= 32; width++) {
                String head = "word 8; reg R[" + (1 << takes) + "] 5; reg i " + width + "; reg v 5; ";
                boolean right = width == takes;
                Harness.dueFault(head + "def f() 5 = R[i];", right ? "none" : "9@" + (head.length() + 12));
                Harness.dueFault(head + "def f() 1 = v == R[i];", right ? "none" : "9@" + (head.length() + 17));
                Harness.dueFault(head + "def f() 1 = R[i] == R[i];", right ? "none" : "9@" + (head.length() + 12));
                Harness.dueFault(head + "ins k 00000000 { R[i] = v; }", right ? "none" : "9@" + (head.length() + 17));
            }
        }
    }

    /** an index: of a mem its NUMBER. */
    private static void memoryIndexes() {
        for (int takes = 1; takes <= 20; takes++) {
            for (int width = Math.max(1, takes - 2); width <= takes + 2; width++) {
                String head = "word 8; mem M[" + takes + "] 32; reg i " + width + "; reg v 32; ";
                boolean right = width == takes;
                Harness.dueFault(head + "def f() 32 = M[i];", right ? "none" : "9@" + (head.length() + 13));
                Harness.dueFault(head + "def f() 1 = v == M[i];", right ? "none" : "9@" + (head.length() + 17));
                Harness.dueFault(head + "def f() 1 = M[i] == M[i];", right ? "none" : "9@" + (head.length() + 12));
                Harness.dueFault(head + "ins k 00000000 { M[i] = v; }", right ? "none" : "9@" + (head.length() + 17));
            }
        }
    }

    /** an argument: its parameter's; the widths as told. */
    private static void arguments() {
        for (int width = 1; width <= 32; width++) {
            int other = width == 32 ? 31 : width + 1;
            String head = "word 8; def f(a " + width + ", b " + other + ") " + other + " = b; def g(p " + width + ", q " + other + ") ";
            Harness.dueSound(head + other + " = f(p, q);");
            Harness.dueFaultAt(9, head + other + " = $f(q, p);");
            Harness.dueFaultAt(9, head + other + " = $f(p, p);");
            Harness.dueFaultAt(9, head + other + " = $f(q, q);");
            Harness.dueFaultAt(9, head + width + " = $f(p, q);");
        }
        String list = "a1 1, a2 2, a3 3, a4 4, a5 5, a6 6";
        String head = "word 8; def f(" + list + ") 1 = a1; def g(" + list + ") 1 = ";
        Harness.dueSound(head + "f(a1, a2, a3, a4, a5, a6);");
        for (int wrong = 1; wrong <= 6; wrong++) {
            Harness.dueFaultAt(9, head + "$" + "f(a1, a2, a3, a4, a5, a6);".replace("a" + wrong, "7:7"));
        }
    }

    /** << >> the left side's; nothing is asked of their sides. */
    private static void shifts() {
        for (String sign : new String[] {"<<", ">>"}) {
            for (int width = 1; width <= 32; width++) {
                dueOf(width, 33 - width, width, "p " + sign + " q");
                dueOf(width, 33 - width, 33 - width, width == 33 - width ? "p" : "$p " + sign + " q");
                dueOf(width, 1, width, "p " + sign + " q " + sign + " p");
            }
        }
        dueOf(8, 8, 8, "p << q + q");
        dueOf(8, 9, 8, "p << $p + q");
    }

    /** a rep's name 8. */
    private static void reps() {
        for (int width = 1; width <= 32; width++) {
            for (int times : new int[] {1, 255}) {
                String head = "word 8; reg r " + width + "; ins i 00000000 { rep n " + times + " { ";
                Harness.dueFault(head + "r = n; } }", width == 8 ? "none" : "9@" + head.length());
            }
        }
    }

    /** Of an expression with wrong ones in it nothing more is asked. */
    private static void innerOnes() {
        // In each the outer one, too, would be wrong, and stand before it.
        for (String outer : new String[] {
            "q + (@)", "q * ~(@)", "b ? q : (@)", "b ? (@) : q", "q ? q : (@)", "q == -(@)", "cat(q, q, q, q, (@))", "sx(q + (@), 1)", "~(@)",
            "q << (@)", "(@) + q", "(@).31:0", "sx((@), 1)", "zx(cat(q, (@)), 1)", "f(q, (@), b)", "(@) ? q : b", "f((@), b, b)"}) {
            String marked = outer.replace("@", "$p + b");
            Harness.dueFaultAt(9, "word 8; def f(p 7, q 9, b 1) 1 = 1:1; def g(p 7, q 9, b 1) 8 = " + marked + ";");
        }
        String ins = "word 8; reg p 7; reg b 1; reg R[4] 8; mem M[7] 8; ins i 00000000 { ";
        Harness.dueFaultAt(9, ins + "b = ~($p + b); }");
        Harness.dueFaultAt(9, ins + "R[$p + b] = b; }");
        Harness.dueFaultAt(9, ins + "R[0:2] = ~($p + b); }");
        Harness.dueFaultAt(9, ins + "if ~($p + b) {} }");
        Harness.dueFaultAt(9, ins + "R[~M[$p + b]] = b; }");
    }

    /** WIDTH: told by its first lexeme; the first place counting. */
    private static void places() {
        dueOf(7, 9, 1, "sx($p + q, 1) == q");
        dueOf(7, 9, 1, "$p + q == p + q");
        dueOf(7, 9, 1, "p + p == $p + q");
        dueOf(7, 9, 1, "$(p) + q == p");
        dueOf(7, 9, 1, "($(p) + q) == p");
        dueOf(7, 9, 1, "(($((p)) + q)) == p");
        dueOf(7, 9, 1, "$(p + p).7:0 + q");
        dueOf(7, 9, 1, "$~p + q");
        dueOf(7, 9, 1, "~$p.7:0");
        dueOf(7, 9, 1, "~($p + q)");
        dueOf(7, 9, 1, "$cat(p, q, q, q)");
        dueOf(7, 9, 1, "$sx(p, 6)");
        dueOf(7, 9, 1, "$sx(p, 6).0:0");
        dueOf(7, 9, 1, "-$sx(p, 6)");
        dueOf(7, 9, 1, "$b ? b : p");
        dueOf(7, 9, 1, "b ? b : $p == q");
        dueOf(7, 9, 1, "b ? b : b ? b : $p + q");
        // Two that are wrong, of which neither is in the other.
        dueOf(7, 9, 1, "($p + q) + (q + p)");
        dueOf(7, 9, 1, "b + ($q - p) * (p ^ q)");
        Harness.dueFaultAt(9, "word 8; def f(p 7) 8 = $p; def g(p 7) 8 = p;");
        Harness.dueFaultAt(9, "word 8; reg a 8; ins i 00000000 { $a = 1:1; } def f() 8 = 1:1;");
        // The inner one of two comes later in the text than a wrong = before it.
        Harness.dueFaultAt(9, "word 8; reg a 8; ins i 00000000 { $a = 1:1; a = 1:1 + 1:2; }");
    }

    /** an action's index, and its = when the index is right (told by the NAME before it). */
    private static void actionIndexes() {
        String ins = "word 8; reg a 8; reg b 1; reg R[4] 8; mem M[8] 8; ins i 00000000 { ";
        Harness.dueSound(ins + "R[3:2] = a; M[a] = a; }");
        Harness.dueFaultAt(9, ins + "$R[3:3] = a; }");
        Harness.dueFaultAt(9, ins + "$R[1:1] = a; }");
        Harness.dueFaultAt(9, ins + "$M[3:7] = a; }");
        Harness.dueFaultAt(9, ins + "$M[3:9] = a; }");
        Harness.dueFaultAt(9, ins + "$R[3:3] = b; }");
        Harness.dueFaultAt(9, ins + "$R[3:3] = a + b; }");
        Harness.dueFaultAt(9, ins + "$R[3:2] = b; }");
        Harness.dueFaultAt(9, ins + "R[$a + b] = a; }");
        Harness.dueFaultAt(9, ins + "R[$a + b] = b; }");
        Harness.dueFaultAt(9, ins + "R[3:2] = $a + b; }");
        Harness.dueFaultAt(9, ins + "R[3:2] = a; $R[1:1] = a; }");
    }

    /** =: both of one width. */
    private static void assignments() {
        for (int width = 1; width <= 32; width++) {
            String ins = "word 8; reg a " + width + "; reg R[2] " + width + "; mem M[1] " + width + "; ins i 00000000 { ";
            for (String target : new String[] {"a", "R[0:1]", "M[0:1]"}) {
                Harness.dueSound(ins + target + " = 0:" + width + "; }");
                if (width > 1) {
                    Harness.dueFaultAt(9, ins + "$" + target + " = 0:" + (width - 1) + "; }");
                }
                if (width < 32) {
                    Harness.dueFaultAt(9, ins + "$" + target + " = 0:" + (width + 1) + "; }");
                }
            }
        }
    }

    /** if: width 1 (by the expression's first lexeme). */
    private static void conditions() {
        for (int width = 1; width <= 32; width++) {
            String ins = "word 8; ins i 00000000 { ";
            for (String body : new String[] {" {} }", " {} else {} }"}) {
                Harness.dueFault(ins + "if 0:" + width + body, width == 1 ? "none" : "9@" + (ins.length() + 3));
                Harness.dueFault(ins + "if ~0:" + width + body, width == 1 ? "none" : "9@" + (ins.length() + 3));
                Harness.dueFault(ins + "if (0:" + width + ")" + body, width == 1 ? "none" : "9@" + (ins.length() + 3));
            }
            Harness.dueSound(ins + "if 0:" + width + " == 0:" + width + " {} }");
        }
        Harness.dueFaultAt(9, "word 8; reg b 1; ins i 00000000 { if b { if b {} else { if $0:2 {} } } if 0:3 {} }");
    }

    /** def: the width told (by the expression's first lexeme). */
    private static void helpers() {
        for (int width = 1; width <= 32; width++) {
            for (int told = Math.max(1, width - 1); told <= Math.min(32, width + 1); told++) {
                dueOf(width, width, told, told == width ? "p" : "$p");
                dueOf(width, width, told, told == width ? "p + q" : "$p + q");
                dueOf(width, width, told, told == width ? "(p + q)" : "$(p + q)");
            }
        }
    }

    /** if and def: both by the expression's first lexeme, which a bracket is; and told there alone. */
    private static void bracketed() {
        String[] marked = {
            "$p", "$(p)", "$((p))", "$( (p) )", "$(p + q)", "$((p) + (q))", "$(p) + q", "$((p + q)) * p", "$~(p)", "$(~p)",
            "$(p).7:1", "$((p).7:1)", "$(b ? p : q)", "$(b) ? p : q", "$((b) ? (p) : q)", "$(R[(1:1)])", "$R[(1:1)]",
            "$(sx((p), 9))", "$cat((p), q)"
        };
        String head = "word 9; reg b 1; reg p 8; reg q 8; reg R[2] 8; ";
        for (String expression : marked) {
            Harness.dueFaultAt(9, head + "ins i 000000000 { if " + expression + " { } }");
            Harness.dueFaultAt(9, head + "ins i 000000000 { if" + expression.replace("$", " # (\n$") + "{} else { if b { } } }");
            Harness.dueFaultAt(9, head + "def f() 2 = " + expression + ";");
            Harness.dueFaultAt(9, head + "def f()2=" + expression.replace("$", " # (\n$") + ";");
        }
        // An expression that is wrong in brackets is told by its own first lexeme, and nothing more is asked.
        Harness.dueFaultAt(9, head + "def f() 2 = ($p + b);");
        Harness.dueFaultAt(9, head + "def f() 2 = (($(p) + b));");
        Harness.dueFaultAt(9, head + "ins i 000000000 { if ($p + b) { } }");
        Harness.dueFaultAt(9, head + "ins i 000000000 { if (($(p) + b)) { } }");
    }

    /** 10 BITS: an instruction's parts have not as many bits as word says (told by its NAME). */
    private static void bits() {
        for (int word = 1; word <= 64; word++) {
            for (int many = word - 1; many <= word + 1; many++) {
                String head = "word " + word + "; ins ";
                String due = many == word ? "none" : "10@" + head.length();
                String each = " 1".repeat(many);
                String named = (many >= 32 ? " a:32" : "") + (many % 32 > 0 ? " b:" + many % 32 : "") + (many >= 64 ? " c:32" : "");
                Harness.dueFault(head + "i" + each + " {}", due);
                Harness.dueFault(head + "i" + named + " {}", due);
            }
        }
        Harness.dueFaultAt(10, "word 8; ins $i {}");
        Harness.dueFaultAt(10, "word 64; ins $i a:32 b:32 c:32 d:32 {}");
        Harness.dueFaultAt(10, "word 1; ins i 1 {} ins $j 11 {} ins k {}");
        Harness.dueFaultAt(10, "word 1; ins $j" + " 1".repeat(257) + " {}");
        // Noughts count.
        Harness.dueSound("word 32; ins i " + "0".repeat(32) + " {}");
    }

    /** Then, each through the whole text before the next one. */
    private static void order() {
        String head = "word 8; reg a 8; reg R[4] 8; ";
        String[] texts = {
            "reg n 0; ", "reg a 8; ", "def u() 8 = q; ", "def m() 8 = R; ", "def o() 8 = o(); ", "def w() 8 = 1:1; ", "ins b 1 {} "};
        int[] places = {6, 4, 12, 12, 4, 12, 4};
        for (int low = 0; low < texts.length; low++) {
            Harness.dueFault(head + texts[low], (low + 4) + "@" + (head.length() + places[low]));
            for (int high = low + 1; high < texts.length; high++) {
                String before = head + texts[high];
                Harness.dueFault(before + texts[low], (low + 4) + "@" + (before.length() + places[low]));
                Harness.dueFault(head + texts[low] + texts[high], (low + 4) + "@" + (head.length() + places[low]));
            }
            String all = head + texts[low];
            Harness.dueFault(all + ";", "2@" + all.length());
            Harness.dueFault(all + "!", "1@" + all.length());
            Harness.dueFault(all + "def d() 8 = " + "(".repeat(80) + "!", "1@" + (all.length() + 92));
            Harness.dueFault(all + "def d() 8 = " + "(".repeat(80) + ";", "3@" + (all.length() + 92));
        }
    }

    /** NODES are the expressions, in the order in which they end in the text, inner ones first. */
    private static void nodes() {
        dueNodes("((p))", "1");
        dueNodes("p + q * b", "1 1 1 10 11");
        dueNodes("(p + q) * b", "1 1 11 1 10");
        dueNodes("p * q + b", "1 1 10 1 11");
        dueNodes("p - q - b", "1 1 12 1 12");
        dueNodes("~-p.0:0", "1 7 9 8");
        dueNodes("p == q ? q : ~b", "1 1 18 1 1 8 21");
        dueNodes("cat(p, ~q, b).1:0.0:0", "1 1 8 1 6 7 7");
        dueNodes("sx(p, 1) << zx(q, 1) >> 1:1", "1 4 1 5 13 0 14");
        dueNodes("f(f(p, q, b), q | b, b ^ p & q)", "1 1 1 3 1 1 17 1 1 1 15 16 3");
        dueNodes("p != q", "1 1 19");
        dueNodes("p < q", "1 1 20");
    }

    private static void dueNodes(String expression, String due) {
        MachineText x = Harness.read("word 8; def f(p 1, q 1, b 1) 1 = 1:1; def g(p 1, q 1, b 1) 1 = " + expression + ";");
        Harness.due("fault of " + expression, Harness.faultOf(x), "none");
        StringBuilder kinds = new StringBuilder();
        for (int k = 1; k < x.count(3); k++) {
            kinds.append(k > 1 ? " " : "").append(x.node(k, 0));
        }
        Harness.due("kinds of " + expression, kinds, due);
    }
}
