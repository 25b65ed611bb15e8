/** Promises 4 and 5: lexemes, and fault 1. */
public final class LexemeTest {
    public static void main(String[] args) {
        white();
        names();
        numbers();
        signs();
        Harness.finish("LexemeTest");
    }

    private static void white() {
        Harness.duePrinted("\t\r\n word# ; word 9\n 8 #\n;# the end", "word 8;\n");
        Harness.duePrinted("word 8;#\rreg a 8;\n", "word 8;\n");
        Harness.duePrinted("word 8;# \u00ff\u0000!\nreg a 8;", "word 8;\nreg a 8;\n");
        Harness.dueFaultAt(1, "word 8;$\u000b");
        Harness.dueFaultAt(1, "word 8;$\u000creg");
        Harness.dueFaultAt(1, "word$\u0000 8;");
        Harness.dueFaultAt(1, "word $\u00e4;");
        Harness.dueFault("   # nothing \n ", "2@15");
    }

    private static void names() {
        Harness.dueSound("word 8; reg abcdefghijklmnop 8;");
        Harness.dueSound("word 8; reg _ 8; reg __1 8; reg A_9z 8; reg z 1;");
        Harness.dueFaultAt(1, "word 8; reg $abcdefghijklmnopq 8;");
        Harness.dueFaultAt(1, "word 8; reg $_________________ 8;");
        // Names differ in their last byte and in their first.
        Harness.dueSound("word 8; reg abcdefghijklmnop 8; reg abcdefghijklmnoq 8; reg bbcdefghijklmnop 8;");
        Harness.dueFaultAt(5, "word 8; reg abcdefghijklmnop 8; reg $abcdefghijklmnop 8;");
        Harness.dueSound("word 8; reg Word 8; reg words 8; reg wor 8; reg reg1 8; reg If 1;");
        for (String word : "word reg mem def ins if else rep raise sx zx cat".split(" ")) {
            Harness.dueFaultAt(2, "word 8; reg $" + word + " 8;");
        }
        // All text is cut first, so a later lexeme counts before a grammar that does not fit.
        Harness.dueFaultAt(1, "; ; ; word $@");
    }

    private static void numbers() {
        String noughts = "0".repeat(31);
        Harness.dueSound("word " + noughts + "8;");
        Harness.dueFaultAt(1, "word $0" + noughts + "8;");
        Harness.dueSound("word 0x00000008; reg a 0x1f;");
        Harness.dueFaultAt(1, "word $0x000000008;");
        Harness.dueFaultAt(4, "word $99999999999999999999999999999999;");
        Harness.dueFaultAt(4, "word $18446744073709551624;");
        Harness.dueFaultAt(4, "word $4294967304;");
        Harness.dueFaultAt(4, "word $0xffffffff;");
        // 0x without a digit is a nought and a name.
        Harness.dueFaultAt(2, "word 0$x;");
        Harness.dueFaultAt(2, "word 0$xF;");
        Harness.dueFaultAt(2, "word 0$X8;");
        Harness.dueFaultAt(2, "word 0x8$g;");
        Harness.dueFaultAt(2, "word 0x8$A;");
        Harness.dueFaultAt(2, "word 8$x;");
        Harness.dueFaultAt(2, "word 00$x8;");
        Harness.dueFaultAt(1, "word 0$xqbcdefghijklmnopq;");
        Harness.duePrinted("word 8;ins i 0x:3 0000{}", "word 8;\nins i 0 x:3 0000 { }\n");
        Harness.duePrinted("word 8;ins i 00x:1 00000{}", "word 8;\nins i 00 x:1 00000 { }\n");
    }

    private static void signs() {
        Harness.dueFaultAt(1, "word 8; def f(a 8) 8 = a $! a;");
        Harness.dueFaultAt(1, "word 8; def f(a 8) 8 = a $> a;");
        Harness.dueFaultAt(1, "word 8; def f(a 8) 8 = a >>$> a;");
        Harness.dueFaultAt(1, "word 8; def f(a 8) 8 = a $/ a;");
        for (String sign : "@ \" % ' / \\ ` $ ! >".split(" ")) {
            Harness.dueFault("word 8; " + sign, "1@8");
        }
        // The longest that fit: === is == and =, <<< is << and <, <= is < and =.
        Harness.dueFaultAt(2, "word 8; def f(a 8) 8 = a ==$= a;");
        Harness.dueFaultAt(2, "word 8; def f(a 8) 8 = a <<$< a;");
        Harness.dueFaultAt(2, "word 8; def f(a 8) 8 = a <$= a;");
        Harness.duePrinted("word 8;def f(a 8)1=a!=-a;", "word 8;\ndef f(a 8) 1 = a != -a;\n");
        MachineText x = Harness.read("word 8;def f(a 8)1=a<<a!=a>>~a;");
        Harness.due("count(1)", x.count(1), 20);
    }
}
