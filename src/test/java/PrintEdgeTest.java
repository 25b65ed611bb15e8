/**
 * What 'Terms' says of what is printed, a method for each rule of it. Before each method stands the
 * rule that would be broken.
 */
public final class PrintEdgeTest {
    private static final String HEAD = "word 8;\nreg a 8;\nreg b 1;\nreg R[4] 8;\nmem M[8] 8;\ndef e() 8 = 1:8;\ndef f(x 8, y 8) 8 = x;\n";
    // Loosest first; each sign with one of its own level and the next.
    private static final String[][] LEVELS = {
        {"|"}, {"^"}, {"&"}, {"<<", ">>"}, {"+", "-"}, {"*"}};

    public static void main(String[] args) {
        lines();
        numbers();
        parts();
        names();
        statementWidths();
        braces();
        emptyBodies();
        binarySigns();
        choices();
        commas();
        elses();
        closeTogether();
        bracketsOfLevels();
        bracketsOfCompares();
        bracketsOfChoices();
        bracketsOfPrefixes();
        bracketsOfSlices();
        bracketsInLists();
        bracketsOfManyPairs();
        fixedPoint();
        Harness.finish("PrintEdgeTest");
    }

    private static void dueExpression(String expression, String due) {
        Harness.duePrinted(HEAD + "def g(p 8,q 8)8=" + expression + ";", HEAD + "def g(p 8, q 8) 8 = " + due + ";\n");
    }

    /** An expression of one bit. */
    private static void dueBit(String expression, String due) {
        Harness.duePrinted(HEAD + "def g(p 8,q 8)1=" + expression + ";", HEAD + "def g(p 8, q 8) 1 = " + due + ";\n");
    }

    private static void dueBody(String body, String due) {
        Harness.duePrinted(HEAD + "ins i d:8{" + body + "}", HEAD + "ins i d:8 {" + due + "}\n");
    }

    /** a statement a line (10 behind it; the word first). */
    private static void lines() {
        Harness.duePrinted("word 8;", "word 8;\n");
        Harness.duePrinted("\n\nword\n8\n;\n#\n", "word 8;\n");
        Harness.duePrinted("word 8;reg a 8;mem m[1]1;def d()1=1:1;ins i d:8{a=d;if a==a\n{raise 1;}}",
            "word 8;\nreg a 8;\nmem m[1] 1;\ndef d() 1 = 1:1;\nins i d:8 { a = d; if a == a { raise 1; } }\n");
        Harness.duePrinted("word 1;ins i 1{}ins j 0{}", "word 1;\nins i 1 { }\nins j 0 { }\n");
    }

    /** values and other numbers as decimals, without noughts before. */
    private static void numbers() {
        String[][] numbers = {
            {"0x1", "1"}, {"01", "1"}, {"00000000000000000000000000000001", "1"}, {"0x00000001", "1"}, {"0xa", "10"}, {"010", "10"}, {"0x1f", "31"}};
        for (String[] n : numbers) {
            String from = n[0];
            String to = n[1];
            Harness.duePrinted("word " + from + ";", "word " + to + ";\n");
            Harness.duePrinted("word 8;reg a " + from + ";", "word 8;\nreg a " + to + ";\n");
            Harness.duePrinted("word 8;mem a[8]" + from + ";", "word 8;\nmem a[8] " + to + ";\n");
            Harness.duePrinted("word 8;def f(a " + from + ")" + from + "=a;", "word 8;\ndef f(a " + to + ") " + to + " = a;\n");
            Harness.duePrinted("word " + from + ";ins i a:" + from + "{rep n " + from + "{raise " + from + ";}}",
                "word " + to + ";\nins i a:" + to + " { rep n " + to + " { raise " + to + "; } }\n");
            Harness.duePrinted("word 8;def f()32=" + from + ":0x20;", "word 8;\ndef f() 32 = " + to + ":32;\n");
            Harness.duePrinted("word 8;def f()" + from + "=0x0:" + from + ";", "word 8;\ndef f() " + to + " = 0:" + to + ";\n");
            Harness.duePrinted("word 8;def f(a 1)" + from + "=sx(a," + from + ")+zx(a," + from + ");",
                "word 8;\ndef f(a 1) " + to + " = sx(a, " + to + ") + zx(a, " + to + ");\n");
            Harness.duePrinted("word 8;def f(a 32)1=a." + from + ":" + from + ";", "word 8;\ndef f(a 32) 1 = a." + to + ":" + to + ";\n");
        }
        for (String n : new String[] {"2", "0x2", "02"}) {
            Harness.duePrinted("word 8;reg a[" + n + "]8;mem m[" + n + "]8;", "word 8;\nreg a[2] 8;\nmem m[2] 8;\n");
        }
        for (String n : new String[] {"0", "00", "0x0", "0x00000000", "00000000000000000000000000000000"}) {
            Harness.duePrinted("word 8;def f(a 8)1=" + n + ":1+a." + n + ":" + n + ";", "word 8;\ndef f(a 8) 1 = 0:1 + a.0:0;\n");
            Harness.duePrinted("word 1;ins i 1{raise " + n + ";}", "word 1;\nins i 1 { raise 0; }\n");
        }
        long all = 1;
        for (int digits = 1; digits <= 10; digits++) {
            for (long n : new long[] {all - 1, all, all + 1, 9 * all}) {
                if (n < 1L << 32) {
                    Harness.duePrinted("word 8;def f()32=0x" + Long.toHexString(n) + ":32;", "word 8;\ndef f() 32 = " + n + ":32;\n");
                }
            }
            all *= 10;
        }
        Harness.duePrinted("word 8;def f()32=0xffffffff:32;", "word 8;\ndef f() 32 = 4294967295:32;\n");
        Harness.duePrinted("word 8;def f()32=0x80000000:32;", "word 8;\ndef f() 32 = 2147483648:32;\n");
    }

    /** parts without a name as they are; a blank between numbers of parts, too. */
    private static void parts() {
        Harness.duePrinted("word 1;ins i 0{}", "word 1;\nins i 0 { }\n");
        Harness.duePrinted("word 8;ins i 0001 0010{}", "word 8;\nins i 0001 0010 { }\n");
        Harness.duePrinted("word 8;ins i 00 0 0 0 d:03{}", "word 8;\nins i 00 0 0 0 d:3 { }\n");
        Harness.duePrinted("word 8;ins i d:4e:3 1{}", "word 8;\nins i d:4 e:3 1 { }\n");
        Harness.duePrinted("word 8;ins i 0000d:3 1{}", "word 8;\nins i 0000 d:3 1 { }\n");
        Harness.duePrinted("word 32;ins i " + "0".repeat(32) + "{}", "word 32;\nins i " + "0".repeat(32) + " { }\n");
        // An instruction's name may be followed by its first part or by its body.
        Harness.duePrinted("word 64;ins i " + "1".repeat(32) + "\n" + "0".repeat(32) + "{}",
            "word 64;\nins i " + "1".repeat(32) + " " + "0".repeat(32) + " { }\n");
    }

    /** lexemes as they are; a blank between names, words and numbers that stand beside each other. */
    private static void names() {
        Harness.duePrinted("word\t8;reg\nabcdefghijklmnop\r8;reg _#\n9;", "word 8;\nreg abcdefghijklmnop 8;\nreg _ 9;\n");
        Harness.duePrinted("word 8;def f(a\n8\n,\nb\n8)8=a;", "word 8;\ndef f(a 8, b 8) 8 = a;\n");
        dueBody("raise\n9;rep\nn\n9{}if\nb{}", " raise 9; rep n 9 { } if b { } ");
        dueBody("if zx(b,1){}if sx(b,1){}if 1:1{}if cat(b,b).0:0{}",
            " if zx(b, 1) { } if sx(b, 1) { } if 1:1 { } if cat(b, b).0:0 { } ");
    }

    /** a blank behind the ) or ] before a statement's width. */
    private static void statementWidths() {
        Harness.duePrinted("word 8;reg a[2]8;mem b[2]8;def c()8=1:8;def d(x 8)8=x;",
            "word 8;\nreg a[2] 8;\nmem b[2] 8;\ndef c() 8 = 1:8;\ndef d(x 8) 8 = x;\n");
        Harness.duePrinted("word 8;reg a [ 2 ] 8 ;mem b [ 2 ] 8 ;def c ( ) 8 = 1 : 8 ;",
            "word 8;\nreg a[2] 8;\nmem b[2] 8;\ndef c() 8 = 1:8;\n");
    }

    /** a blank between a name or number (or a closing bracket) and a { behind it; behind ; and { and before }. */
    private static void braces() {
        dueBody("if b{a=a;}", " if b { a = a; } ");
        dueBody("if a.0:0{a=a;}", " if a.0:0 { a = a; } ");
        dueBody("if 1:1{a=a;}", " if 1:1 { a = a; } ");
        dueBody("if zx(b,1){a=a;}", " if zx(b, 1) { a = a; } ");
        dueBody("if R[0:2]==R[1:2]{a=a;}", " if R[0:2] == R[1:2] { a = a; } ");
        dueBody("if a==e(){a=a;}", " if a == e() { a = a; } ");
        dueBody("if a==(a+a).7:0{a=a;}", " if a == (a + a).7:0 { a = a; } ");
        dueBody("if a==M[a]{a=a;}", " if a == M[a] { a = a; } ");
        dueBody("if b&(a<a){a=a;}", " if b & (a < a) { a = a; } ");
        dueBody("rep n 3{a=n;a=n;}", " rep n 3 { a = n; a = n; } ");
        dueBody("if b{if b{if b{}}}", " if b { if b { if b { } } } ");
    }

    /** one alone in an empty body: { }; behind a } with an action behind it. */
    private static void emptyBodies() {
        dueBody("", " ");
        dueBody("if b{}", " if b { } ");
        dueBody("if b { } else { }", " if b { } else { } ");
        dueBody("rep n 3{}", " rep n 3 { } ");
        dueBody("rep n 3{}rep n 3{}a=a;", " rep n 3 { } rep n 3 { } a = a; ");
        dueBody("if b{}raise 1;if b{}else{}raise 2;", " if b { } raise 1; if b { } else { } raise 2; ");
        dueBody("if b{}R[0:2]=a;", " if b { } R[0:2] = a; ");
    }

    /** round binary signs and =. */
    private static void binarySigns() {
        for (String sign : "+ - * & | ^ << >>".split(" ")) {
            dueExpression("p" + sign + "q", "p " + sign + " q");
            dueExpression("p" + sign + "-q", "p " + sign + " -q");
            dueExpression("-p" + sign + "~-~q", "-p " + sign + " ~-~q");
        }
        for (String sign : "== != <".split(" ")) {
            dueBit("p" + sign + "q", "p " + sign + " q");
            dueBit("p" + sign + "-q", "p " + sign + " -q");
        }
        dueExpression("p---q", "p - --q");
        dueExpression("- - p", "--p");
        dueBody("a=-a;M[a]=-a;", " a = -a; M[a] = -a; ");
    }

    /** ? and : of a choice; of a value, a slice and a part not. */
    private static void choices() {
        dueExpression("p==q?p:q", "p == q ? p : q");
        dueExpression("b?1:8:2:8", "b ? 1:8 : 2:8");
        dueExpression("b?p.7:0:q.7:0", "b ? p.7:0 : q.7:0");
        dueExpression("b?b?p:q:b?q:p", "b ? b ? p : q : b ? q : p");
        dueExpression("b?-p:~q", "b ? -p : ~q");
        dueExpression("b ? 1 : 8 : 2 : 8", "b ? 1:8 : 2:8");
    }

    /** behind commas. */
    private static void commas() {
        dueExpression("f(p,q)", "f(p, q)");
        dueExpression("f(f(p,q),cat(p.3:0,1:1,q.2:0))", "f(f(p, q), cat(p.3:0, 1:1, q.2:0))");
        dueExpression("sx(b,8)+zx(b,8)", "sx(b, 8) + zx(b, 8)");
        dueExpression("f(-p,(q))", "f(-p, q)");
        dueExpression("f((p+q)*p,(q+p)*q)", "f((p + q) * p, (q + p) * q)");
    }

    /** ahead of else and behind it. */
    private static void elses() {
        dueBody("if b{}else{}", " if b { } else { } ");
        dueBody("if b{a=a;}else{a=a;}a=a;", " if b { a = a; } else { a = a; } a = a; ");
        dueBody("if b{if b{}else{}}else{if b{}else{}}", " if b { if b { } else { } } else { if b { } else { } } ");
    }

    /** nothing else. */
    private static void closeTogether() {
        dueExpression("e ( ) + M [ p ] + ~ p . 7 : 0 + f ( p , q ) + 1 : 8", "e() + M[p] + ~p.7:0 + f(p, q) + 1:8");
        dueBody("R [ 1 : 2 ] = a ; raise 1 ;", " R[1:2] = a; raise 1; ");
        dueBody("if ~ b{}if - b{}if (b|b)&b{}if (a==a)&b{}", " if~b { } if-b { } if(b | b) & b { } if(a == a) & b { } ");
    }

    /** Brackets round an expression just where the grammar wants them: of those from the left. */
    private static void bracketsOfLevels() {
        for (int outer = 0; outer < LEVELS.length; outer++) {
            for (int inner = 0; inner < LEVELS.length; inner++) {
                for (String o : LEVELS[outer]) {
                    for (String i : LEVELS[inner]) {
                        String left = "p " + i + " q " + o + " a";
                        String right = "p " + o + " q " + i + " a";
                        String leftKept = "(p " + i + " q) " + o + " a";
                        String rightKept = "p " + o + " (q " + i + " a)";
                        dueExpression("((p" + i + "q))" + o + "a", inner >= outer ? left : leftKept);
                        dueExpression("p" + o + "((q" + i + "a))", inner > outer ? right : rightKept);
                        dueExpression("(p)" + o + "(q)", "p " + o + " q");
                    }
                }
            }
        }
    }

    /** compare: or [ (== | != | <) or ]. */
    private static void bracketsOfCompares() {
        for (String one : "== != <".split(" ")) {
            for (String two : "== != <".split(" ")) {
                dueBit("(b" + one + "b)" + two + "b", "(b " + one + " b) " + two + " b");
                dueBit("b" + one + "(b" + two + "b)", "b " + one + " (b " + two + " b)");
            }
            for (String sign : "| ^ & << >> + - *".split(" ")) {
                dueBit("(b" + sign + "b)" + one + "(b" + sign + "b)", "b " + sign + " b " + one + " b " + sign + " b");
                dueBit("(b" + one + "b)" + sign + "b", "(b " + one + " b) " + sign + " b");
                dueBit("b" + sign + "(b" + one + "b)", "b " + sign + " (b " + one + " b)");
            }
            dueBit("(b" + one + "b)", "b " + one + " b");
            dueExpression("(p" + one + "q)?p:q", "p " + one + " q ? p : q");
            dueBit("b?(b" + one + "b):(b" + one + "b)", "b ? b " + one + " b : b " + one + " b");
        }
    }

    /** choice: compare [ ? choice : choice ]. */
    private static void bracketsOfChoices() {
        dueExpression("(b?p:q)", "b ? p : q");
        dueExpression("(b)?(p):(q)", "b ? p : q");
        dueExpression("b?(b?p:q):(b?p:q)", "b ? b ? p : q : b ? p : q");
        dueExpression("(b?b:b)?p:q", "(b ? b : b) ? p : q");
        dueExpression("((b?b:b))?((p)):((q))", "(b ? b : b) ? p : q");
        for (String sign : "| ^ & << >> + - *".split(" ")) {
            dueExpression("(b?p:q)" + sign + "(b?p:q)", "(b ? p : q) " + sign + " (b ? p : q)");
            dueExpression("b?(p" + sign + "q):(p" + sign + "q)", "b ? p " + sign + " q : p " + sign + " q");
        }
        for (String sign : "== != <".split(" ")) {
            dueBit("(b?p:q)" + sign + "(b?p:q)", "(b ? p : q) " + sign + " (b ? p : q)");
        }
    }

    /** unary: {{ ~ | - }} slice. */
    private static void bracketsOfPrefixes() {
        for (String prefix : new String[] {"~", "-"}) {
            dueExpression(prefix + "(p)", prefix + "p");
            dueExpression(prefix + "(~p)", prefix + "~p");
            dueExpression(prefix + "((-(p)))", prefix + "-p");
            dueExpression(prefix + "(p.7:0)", prefix + "p.7:0");
            dueExpression("(" + prefix + "p).7:0", "(" + prefix + "p).7:0");
            dueExpression(prefix + "(5:8)", prefix + "5:8");
            dueExpression(prefix + "(f(p,q))", prefix + "f(p, q)");
            dueExpression(prefix + "(b?p:q)", prefix + "(b ? p : q)");
            for (String sign : "| ^ & << >> + - *".split(" ")) {
                dueExpression(prefix + "(p" + sign + "q)", prefix + "(p " + sign + " q)");
                dueExpression("(" + prefix + "p)" + sign + "(" + prefix + "q)", prefix + "p " + sign + " " + prefix + "q");
            }
            dueBit(prefix + "(p==q)", prefix + "(p == q)");
        }
    }

    /** slice: primary {{ . NUMBER : NUMBER }}. */
    private static void bracketsOfSlices() {
        for (String primary : new String[] {"p", "5:8", "M[p]", "e()", "f(p, q)", "sx(p, 8)", "zx(p, 8)", "cat(p, q)"}) {
            dueExpression("(" + primary + ").7:0", primary + ".7:0");
            dueExpression("((" + primary + ").7:0).7:0", primary + ".7:0.7:0");
        }
        for (String sign : "| ^ & << >> + - *".split(" ")) {
            dueExpression("(p" + sign + "q).7:0", "(p " + sign + " q).7:0");
            dueExpression("((p" + sign + "q).7:0).7:0", "(p " + sign + " q).7:0.7:0");
        }
        dueExpression("(b?p:q).7:0", "(b ? p : q).7:0");
        dueBit("(p==q).0:0", "(p == q).0:0");
    }

    /** What stands in a list, an index or an action is a whole expression. */
    private static void bracketsInLists() {
        dueExpression("f((b?p:q),(p+q))", "f(b ? p : q, p + q)");
        dueExpression("M[(p+q)]", "M[p + q]");
        dueExpression("M[((b?p:q))]", "M[b ? p : q]");
        dueExpression("sx((p==q),8)", "sx(p == q, 8)");
        dueExpression("cat((b?b:b),(p).6:0)", "cat(b ? b : b, p.6:0)");
        dueBody("M[(a+a)]=(a+a);if(b){}if((b|b)){}R[(0:2)]=((a));", " M[a + a] = a + a; if b { } if b | b { } R[0:2] = a; ");
        dueBody("if((a==a)?b:b){}", " if a == a ? b : b { } ");
    }

    /** One pair is enough where several stand. */
    private static void bracketsOfManyPairs() {
        dueExpression("(((((p+q)))))*(((p+q)))", "(p + q) * (p + q)");
        dueExpression("((((p)))*((q)))", "p * q");
        dueExpression("-((((p+q))))", "-(p + q)");
        dueExpression("((((p+q)*p))+q)*p", "((p + q) * p + q) * p");
        dueExpression("(".repeat(79) + "p" + ")".repeat(79), "p");
        dueExpression("-(".repeat(79) + "p" + ")".repeat(79), "-".repeat(79) + "p");
        dueExpression("p-(".repeat(79) + "q" + ")".repeat(79), "p - (".repeat(78) + "p - q" + ")".repeat(78));
    }

    /** What is printed reads to the same nodes, and prints the same again. */
    private static void fixedPoint() {
        MachineText x = Harness.read(HEAD + "def g(p 8,q 8)8=((p==q)?(p+(q-p)):~((p)));ins i d:8{if((b)){a=((d));}else{M[(a)]=-(-a);}}");
        String once = Harness.printed(x);
        String nodes = nodesOf(x);
        Harness.due("again()", x.again(), once.length());
        Harness.dueCall("read()", () -> x.read(), 8);
        Harness.due("nodes", nodesOf(x), nodes);
        Harness.due("printed again", Harness.printed(x), once);
    }

    private static String nodesOf(MachineText x) {
        StringBuilder all = new StringBuilder();
        for (int k = 0; k < x.count(3); k++) {
            for (int what = -1; what <= 6; what++) {
                all.append(x.node(k, what)).append(' ');
            }
        }
        return all.toString();
    }
}
