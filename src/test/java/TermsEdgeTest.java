/**
 * The bounds that 'Terms' names, in the document's order: of the text, lexemes, the grammar and the
 * ten faults. Before each method stands the sentence that would be broken.
 */
public final class TermsEdgeTest {
    private static final String LETTERS = "ABCDEFGHIJKLMNOPQRSTUVWXYZabcdefghijklmnopqrstuvwxyz_";
    private static final String SIGNS = ";,.=(){}[]:?+-*&|^~<";
    private static final String[] WORDS = "word reg mem def ins if else rep raise sx zx cat".split(" ");

    public static void main(String[] args) {
        fullText();
        white();
        comments();
        nameBytes();
        nameLengths();
        numberLengths();
        hexNumbers();
        signs();
        words();
        missingAndMany();
        listsAndPairs();
        lexemesFirst();
        firstUnfit();
        deepExpressions();
        deepBodies();
        deepActions();
        numberBounds();
        numberValues();
        numberSlices();
        numberParts();
        twiceStatements();
        twiceLists();
        twiceReps();
        unknownNames();
        unknownScopes();
        meaningOfValues();
        meaningOfIndexes();
        meaningOfCalls();
        meaningOfTargets();
        meaningOfHidden();
        rings();
        Harness.finish("TermsEdgeTest");
    }

    /** THE TEXT has at most 8192 bytes. */
    private static void fullText() {
        MachineText x = Harness.ofLength(8192);
        Harness.dueCall("read() of 8192 bytes", () -> x.read(), 2);
        Harness.due("fault", Harness.faultOf(x), "none");
        Harness.dueSound("word 8;" + " ".repeat(8192 - 7));
        Harness.dueSound("word 8;#" + "!".repeat(8192 - 8));
        Harness.dueSound(" ".repeat(8192 - 7) + "word 8;");
    }

    /** What a byte does that stands between "word" and "8;" and is followed by them. */
    private static String faultBetween(int b) {
        if (b == 9 || b == 10 || b == 13 || b == 32) {
            return "none";
        }
        if (b == '#') {
            return "2@7";
        }
        if (LETTERS.indexOf(b) >= 0 || b >= '0' && b <= '9') {
            return "2@0";
        }
        return SIGNS.indexOf(b) >= 0 ? "2@4" : "1@4";
    }

    /** WHITE: 9, 10, 13, 32. */
    private static void white() {
        for (int b = 0; b < 256; b++) {
            Harness.dueFault("word" + (char) b + "8;", faultBetween(b));
        }
        Harness.dueSound("\t\n\r word\t\n\r 8\t\n\r ;\t\n\r ");
        Harness.dueSound("word\t8;");
        // White ends a lexeme.
        Harness.dueFaultAt(2, "$wo rd 8;");
        Harness.dueFaultAt(2, "word 1 $6;");
        Harness.dueFaultAt(2, "word 8; def f(a 8) 1 = a $= = a;");
        Harness.dueFaultAt(2, "word 8; def f(a 8) 8 = a < $< a;");
        Harness.dueFaultAt(1, "word 8; def f(a 8) 8 = a $> > a;");
        Harness.dueFaultAt(1, "word 8; def f(a 8) 1 = a $! = a;");
        Harness.dueFaultAt(2, "word 0 $x8;");
    }

    /** WHITE: from # to the end of the line (10). */
    private static void comments() {
        for (int b = 0; b < 256; b++) {
            Harness.dueFault("word#" + (char) b + "!\n8;", b == 10 ? "1@6" : "none");
        }
        Harness.dueSound("#\nword 8;#");
        Harness.dueSound("word 8;##\n#\n\n#");
        Harness.dueFaultAt(2, "word 8;#\r;\n$;");
        Harness.dueFault("#", "2@1");
        Harness.dueFault("word 8;reg a 8#;", "2@16");
    }

    /** NAMES (a letter or _, then these and digits. */
    private static void nameBytes() {
        for (int b = 0; b < 256; b++) {
            boolean letter = LETTERS.indexOf(b) >= 0;
            boolean digit = b >= '0' && b <= '9';
            MachineText x = Harness.read("word 8;reg " + (char) b + "Q 8;reg Q" + (char) b + "Q 8;");
            String before = faultBetween(b);
            // White leaves Q and Q beside each other; # hides the rest of the text.
            String due = letter ? "none" : digit ? "2@11" : before.equals("none") ? "2@22"
                : before.equals("2@7") ? "2@26" : before.charAt(0) + "@11";
            Harness.due("names with byte " + b, Harness.faultOf(x), due);
            Harness.dueFault("word 8;reg Q" + (char) b + "Q 8;", letter || digit ? "none"
                : before.equals("none") || b == '[' ? "2@13" : before.equals("2@7") ? "2@17" : before.charAt(0) + "@12");
        }
        Harness.dueSound("word 8;reg " + LETTERS.substring(0, 16) + " 8;reg " + LETTERS.substring(26, 42) + " 8;");
        Harness.dueSound("word 8;reg _0123456789 8;reg __ 8;reg _ 8;");
    }

    /** NAMES up to 16; longer names are faults. */
    private static void nameLengths() {
        for (int length = 1; length <= 20; length++) {
            String name = "n".repeat(length);
            Harness.dueFault("word 8;reg " + name + " 8;", length <= 16 ? "none" : "1@11");
            Harness.dueFault("word 8;reg _" + "9".repeat(length - 1) + " 8;", length <= 16 ? "none" : "1@11");
            Harness.dueFault("word 8;" + name, length <= 16 ? "2@7" : "1@7");
        }
        Harness.dueFault("n".repeat(8192), "1@0");
        // All sixteen bytes tell names apart.
        for (int at = 0; at < 16; at++) {
            String other = "n".repeat(at) + "m" + "n".repeat(15 - at);
            Harness.dueSound("word 8;reg " + "n".repeat(16) + " 8;reg " + other + " 8;reg " + "n".repeat(15) + " 8;");
            Harness.dueFaultAt(5, "word 8;reg " + other + " 8;reg $" + other + " 8;");
        }
        // And so does each bit of them: p and one of these differ in one bit, a and q do, too.
        StringBuilder text = new StringBuilder("word 8;reg " + "p".repeat(16) + " 8;reg " + "a".repeat(16) + " 8;");
        for (int at = 0; at < 16; at++) {
            for (String other : "q r t x P 0".split(" ")) {
                if (at > 0 || !other.equals("0")) {
                    text.append("reg ").append("p".repeat(at)).append(other).append("p".repeat(15 - at)).append(" 8;");
                }
            }
            text.append("reg ").append("a".repeat(at)).append("q").append("a".repeat(15 - at)).append(" 8;");
        }
        Harness.dueSound(text.toString());
    }

    /** NUMBERS (digits, up to 32); longer numbers are faults. */
    private static void numberLengths() {
        for (int length = 1; length <= 36; length++) {
            Harness.dueFault("word " + "0".repeat(length - 1) + "8;", length <= 32 ? "none" : "1@5");
            Harness.dueFault("word " + "9".repeat(length) + ";", length > 32 ? "1@5" : length == 1 ? "none" : "4@5");
        }
        Harness.dueFault("word " + "1".repeat(8187), "1@5");
        Harness.dueFaultAt(1, "word 8; ins i $" + "1".repeat(33) + " {}");
        // Numbers that would be within their bounds if they were cut to 32 or 64 bits.
        for (String number : new String[] {"4294967304", "18446744073709551624", "340282366920938463463374607431", "79228162514264337593543950344"}) {
            Harness.dueFaultAt(4, "word $" + number + ";");
            Harness.dueFaultAt(4, "word 8; def f() 32 = $" + number + ":32;");
            Harness.dueFaultAt(4, "word 8; def f() 32 = 1:$" + number + ";");
            Harness.dueFaultAt(4, "word 8; def f(a 8) 1 = a.$" + number + ":0;");
            Harness.dueFaultAt(4, "word 8; ins i 00000000 { raise $" + number + "; }");
        }
    }

    /** NUMBERS: or 0x and digits 0 to 9, a to f, up to 8; 0x without these is no 0x. */
    private static void hexNumbers() {
        for (int length = 1; length <= 12; length++) {
            Harness.dueFault("word 0x" + "0".repeat(length - 1) + "8;", length <= 8 ? "none" : "1@5");
        }
        for (int b = 0; b < 256; b++) {
            boolean hex = "0123456789abcdef".indexOf(b) >= 0;
            if (hex) {
                Harness.duePrinted("word 8;def f()4=0x" + (char) b + ":4;",
                    "word 8;\ndef f() 4 = " + Integer.parseInt("" + (char) b, 16) + ":4;\n");
                Harness.dueFaultAt(4, "word $0x" + (char) b + "00;");
            } else {
                // The nought stands alone; behind it a name, or a name and what is wrong with the byte.
                Harness.due("0x and byte " + b, Harness.faultOf(Harness.read("word 0x" + (char) b)),
                    faultBetween(b).startsWith("1") ? "1@7" : "2@6");
            }
        }
        Harness.dueFaultAt(2, "word 0$X8;");
        Harness.dueFaultAt(2, "word 0x8$A;");
        Harness.dueFaultAt(2, "word 1$x8;");
        Harness.dueFaultAt(2, "word 00$x8;");
        Harness.dueFaultAt(1, "word $0x012345678;");
        Harness.dueFaultAt(1, "word 0$x_3456789abcdefgh;");
        Harness.duePrinted("word 32;def f()32=0x89abcdef:32;", "word 32;\ndef f() 32 = 2309737967:32;\n");
        Harness.duePrinted("word 2;ins i 0xyz:1{}", "word 2;\nins i 0 xyz:1 { }\n");
    }

    /** LEXEMES, the longest that fit: SIGNS == != << >> and the others. */
    private static void signs() {
        String def = "word 1;def f(a 1)1=a";
        for (String sign : "== != << >> < + - * & | ^".split(" ")) {
            Harness.due("lexemes with " + sign, Harness.read(def + sign + "a;").count(1), 15);
        }
        Harness.due("lexemes with a >>~a", Harness.read(def + ">>~a;").count(1), 16);
        Harness.dueFaultAt(2, def + "==$=a;");
        Harness.dueFaultAt(2, def + "!=$=a;");
        Harness.dueFaultAt(2, def + "<<$<a;");
        Harness.dueFaultAt(2, def + "<<$<<a;");
        Harness.dueFaultAt(2, def + "<$=a;");
        Harness.dueFaultAt(2, def + "<$==a;");
        Harness.dueFaultAt(2, def + "==$!=a;");
        Harness.dueFaultAt(2, def + ">>$>>a;");
        Harness.dueFaultAt(2, def + "$=a;");
        Harness.dueFault("!", "1@0");
        Harness.dueFault(">", "1@0");
        Harness.dueFault(">=", "1@0");
        Harness.dueFault("==>", "1@2");
        Harness.dueFault(">>>", "1@2");
        Harness.dueFault("<>", "1@1");
        Harness.dueFault("!!=", "1@0");
        Harness.dueFault("=!", "1@1");
        for (int b = 0; b < SIGNS.length(); b++) {
            Harness.dueFault("" + SIGNS.charAt(b), "2@0");
        }
    }

    /** WORDS are the names word reg mem def ins if else rep raise sx zx cat. */
    private static void words() {
        for (String word : WORDS) {
            Harness.dueFaultAt(2, "word 8;reg $" + word + " 8;");
            Harness.dueFaultAt(2, "word 8;def f($" + word + " 8) 8 = 1:8;");
            Harness.dueFaultAt(2, "word 8;ins i 0000 $" + word + ":4 {}");
            Harness.dueFaultAt(2, "word 8;ins i 00000000 { rep $" + word + " 4 {} }");
            String upper = word.toUpperCase();
            String longer = word + "_";
            String shorter = word.substring(0, word.length() - 1);
            Harness.dueSound("word 8;reg " + upper + " 8;reg " + longer + " 8;reg " + shorter + " 8;reg _" + word + " 8;");
        }
    }

    /** [..] may be missing, {{..}} come as often as one likes. */
    private static void missingAndMany() {
        Harness.dueSound("word 8;");
        Harness.dueSound("word 8;reg a 8;reg b[2]8;");
        Harness.dueSound("word 8;def f()8=1:8;def g(a 8)8=a;def h(a 8,b 8)8=a+b;");
        Harness.dueSound("word 2;ins i 1 1{}ins j a:2{}ins k 1 a:1{raise 1;}");
        Harness.dueFaultAt(10, "word 8;ins $i{}");
        Harness.dueSound("word 1;reg a 1;ins i 1{" + "a=a;".repeat(2000) + "}");
        Harness.dueSound("word 1;reg a 1;ins i 1{if a{}if a{}else{}}");
        String def = "word 1;def e()1=1:1;def f(a 1)1=";
        for (String unit : new String[] {"a|", "a^", "a&", "a<<", "a>>", "a+", "a-", "a*", "~", "-", "~-"}) {
            for (int times : new int[] {0, 1, 2, 1000}) {
                Harness.dueSound(def + unit.repeat(times) + "a;");
            }
        }
        for (int times : new int[] {0, 1, 2, 1000}) {
            Harness.dueSound(def + "a" + ".0:0".repeat(times) + ";");
            Harness.dueSound(def + "e()" + "+e()".repeat(times) + ";");
        }
        Harness.dueSound(def + "a==a;");
        Harness.dueSound(def + "a?a:a;");
    }

    /** cat "(" expression , expression {{ , expression }} ")"; compare: or [ (== | != | <) or ]. */
    private static void listsAndPairs() {
        String def = "word 1;def f(a 1)1=";
        Harness.dueFaultAt(2, def + "cat($);");
        Harness.dueFaultAt(2, def + "cat(a$);");
        Harness.dueSound(def + "cat(a,a).0:0;");
        Harness.dueSound(def + "cat(a" + ",a".repeat(31) + ").0:0;");
        Harness.dueFaultAt(2, def + "cat(a,a,$).0:0;");
        Harness.dueFaultAt(2, def + "sx(a$);");
        Harness.dueFaultAt(2, def + "sx(a,1$,1);");
        Harness.dueFaultAt(2, def + "zx(a,$a);");
        Harness.dueFaultAt(2, def + "f(a,$);");
        Harness.dueFaultAt(2, def + "f($,a);");
        Harness.dueFaultAt(2, def + "a[$];");
        Harness.dueFaultAt(2, def + "a[a$,a];");
        for (String one : new String[] {"==", "!=", "<"}) {
            Harness.dueSound(def + "a" + one + "a;");
            for (String two : new String[] {"==", "!=", "<"}) {
                Harness.dueFaultAt(2, def + "a" + one + "a$" + two + "a;");
                Harness.dueFaultAt(2, def + "a" + one + "a+a$" + two + "a?a:a;");
                Harness.dueSound(def + "(a" + one + "a)" + two + "a;");
                Harness.dueSound(def + "a" + one + "(a" + two + "a);");
                Harness.dueSound(def + "a" + one + "a?a" + two + "a:a" + two + "a;");
            }
        }
    }

    /** 1 LEXEME (told by its beginning; all text is cut first). */
    private static void lexemesFirst() {
        Harness.dueFaultAt(1, "; ; word $!");
        Harness.dueFaultAt(1, "word 99; reg a 99; reg a 99; $nnnnnnnnnnnnnnnnn !");
        Harness.dueFaultAt(1, "word 8; def f() 8 = " + "(".repeat(200) + "$\"");
        Harness.dueFaultAt(1, "word 8; $" + "9".repeat(33) + " " + "9".repeat(33));
        Harness.dueFaultAt(1, "word $0x123456789; !");
        Harness.dueFault(" ".repeat(8175) + "a".repeat(17), "1@8175");
    }

    /** 2 GRAMMAR: the first lexeme that does not fit. */
    private static void firstUnfit() {
        String sound = "word 8; reg a 8; reg R[4] 8; mem M[8] 8; def f(x 8, y 8) 8 = x == y ? R[1:2] : sx(M[x].7:0, 8);"
            + " ins i 0 d:7 { R[2:2] = ~a; if a < a { raise 1; } else { rep n 3 { a = f(n, cat(a.3:0, 1:4)); } } }";
        Harness.dueSound(sound);
        // Without what stands behind a lexeme the end does not fit, but where a statement ends.
        java.util.List<int[]> lexemes = lexemesAt(sound);
        for (int i = 0; i < lexemes.size(); i++) {
            String head = sound.substring(0, lexemes.get(i)[1]);
            boolean whole = head.endsWith(";") && !head.contains("{") || i == lexemes.size() - 1;
            Harness.dueFault(head, whole ? "none" : "2@" + head.length());
            // "word" fits nowhere but at the beginning, and nothing fits in its place there.
            String spoiled = sound.substring(0, lexemes.get(i)[0]) + " word " + sound.substring(lexemes.get(i)[0]);
            Harness.dueFault(spoiled, "2@" + (i == 0 ? 6 : lexemes.get(i)[0] + 1));
        }
    }

    /** Beginnings and ends of the lexemes of a sound text without pairs but ==. */
    private static java.util.List<int[]> lexemesAt(String text) {
        java.util.List<int[]> all = new java.util.ArrayList<>();
        java.util.regex.Matcher m = java.util.regex.Pattern.compile("[A-Za-z_]\\w*|\\d+|==|\\S").matcher(text);
        while (m.find()) {
            all.add(new int[] {m.start(), m.end()});
        }
        return all;
    }

    /** What the last of 80 opens has in it first is told; a $ marks it where it is not the inner one. */
    private static void dueDeep(String head, String open, String inner, String close, String tail) {
        String plain = open.replace("$", "");
        String last = open.contains("$") ? open : open + "$";
        String deep = head + plain.repeat(79) + last;
        Harness.dueSound(head + plain.repeat(79) + inner + close.repeat(79) + tail);
        Harness.dueFaultAt(3, deep + inner + close.repeat(80) + tail);
        Harness.dueFaultAt(3, deep + ":" + close);
        Harness.dueFaultAt(3, deep);
        Harness.dueFaultAt(3, deep + plain);
        // Whether the lexeme fits or not.
        String upTo = deep.substring(0, deep.indexOf('$') + 1);
        Harness.dueFaultAt(3, upTo);
        Harness.dueFaultAt(3, upTo + ":");
        Harness.dueFaultAt(2, head + plain.repeat(79) + "$:");
    }

    /** 3 DEEP: an expression that is in 80 others; what is in brackets, in a list, behind ?, and behind its : is. */
    private static void deepExpressions() {
        String head = "word 8; reg R[2] 1; mem M[1] 1; def f(x 1) 1 = x; def g(x 1, y 1) 1 = y; def h(b 1) 1 = ";
        dueDeep(head, "(", "b", ")", ";");
        dueDeep(head, "R[", "b", "]", ";");
        dueDeep(head, "M[", "b", "]", ";");
        dueDeep(head, "f(", "b", ")", ";");
        dueDeep(head, "g(", "b", ", b)", ";");
        dueDeep(head, "g($b, ", "b", ")", ";");
        dueDeep(head, "sx(", "b", ", 1)", ";");
        dueDeep(head, "zx(", "b", ", 1)", ";");
        dueDeep(head, "cat(", "b", ", b).0:0", ";");
        dueDeep(head, "cat($b, ", "b", ").0:0", ";");
        dueDeep(head, "cat($b, b, ", "b", ").0:0", ";");
        dueDeep(head, "b ? ", "b", " : b", ";");
        dueDeep(head, "b ? $b : ", "b", "", ";");
        dueDeep(head, "~b + -(", "b", ").0:0 * b", ";");
        // An operator's sides are none, nor is a choice's first one, nor what a slice is of.
        Harness.dueSound(head + "(".repeat(79) + "b + b * ~b.0:0 == b" + ")".repeat(79) + ";");
        Harness.dueSound(head + "b" + " + b".repeat(200) + ";");
        Harness.dueSound(head + "~".repeat(200) + "b;");
        Harness.dueSound(head + "b" + ".0:0".repeat(200) + ";");
        Harness.dueFaultAt(3, head + "(".repeat(79) + "b == b ? $b : b" + ")".repeat(79) + ";");
        // Others that have ended do not count.
        Harness.dueSound(head + "(b)" + " + (b)".repeat(200) + ";");
        Harness.dueSound(head + ("(".repeat(79) + "b" + ")".repeat(79) + " + ").repeat(3) + "b;");
        // A list that is empty has no expression in it.
        String empty = "word 8; def e() 1 = 1:1; def h() 1 = ";
        Harness.dueSound(empty + "(".repeat(79) + "e()" + ")".repeat(79) + ";");
        Harness.dueFaultAt(3, empty + "(".repeat(79) + "e($1:1)" + ")".repeat(79) + ";");
        Harness.dueFaultAt(3, empty + "(".repeat(79) + "e($,)");
        Harness.dueFaultAt(3, empty + "(".repeat(79) + "cat($)");
    }

    /** 3 DEEP: a body that is in 80 others. */
    private static void deepBodies() {
        String head = "word 8; reg b 1; ins i 00000000 ";
        dueDeep(head, "{ if b ", "{}", " }", "");
        dueDeep(head, "{ if b ${} else ", "{}", " }", "");
        dueDeep(head, "{ raise 1; if b ", "{ raise 2; }", " else {} raise 3; }", "");
        StringBuilder reps = new StringBuilder();
        for (int i = 0; i < 79; i++) {
            reps.append("{ rep n").append(i).append(" 2 ");
        }
        Harness.dueSound(head + reps + "{}" + "}".repeat(79));
        Harness.dueFaultAt(3, head + reps + "{ rep n 2 ${}" + "}".repeat(80));
        Harness.dueFaultAt(3, head + reps + "{ rep n 2 $");
        Harness.dueFaultAt(3, head + reps + "{ if b $;");
        // Bodies that have ended do not count.
        Harness.dueSound(head + "{" + "if b {} ".repeat(200) + "}");
        Harness.dueSound(head + "{ if b ".repeat(79) + "{}" + " else {} }".repeat(79));
    }

    /** 3 DEEP: the one of an action stands in as many as its body. */
    private static void deepActions() {
        String head = "word 8; reg b 1; reg R[2] 1; ins i 00000000 ";
        for (int bodies : new int[] {1, 2, 40, 79, 80}) {
            String open = head + "{ if b ".repeat(bodies - 1) + "{";
            String close = "}".repeat(bodies);
            int brackets = 80 - bodies;
            String in = "(".repeat(brackets);
            String out = ")".repeat(brackets);
            Harness.dueSound(open + "b = " + in + "b" + out + ";" + close);
            Harness.dueFaultAt(3, open + "b = " + in + "($b" + out + ");" + close);
            Harness.dueSound(open + "R[" + in + "b" + out + "] = b;" + close);
            Harness.dueFaultAt(3, open + "R[" + in + "($b" + out + ")] = b;" + close);
            Harness.dueFault(open + "if " + in + "b" + out + " {}" + close, bodies < 80 ? "none"
                : "3@" + (open.length() + 5));
            Harness.dueFaultAt(3, open + "if " + in + "($b" + out + ") {}" + close);
        }
    }

    /** The numbers on both sides of a bound, where $ stands for the NUMBER. */
    private static void dueBounds(String text, long low, long high) {
        int place = text.indexOf('$');
        for (long n : new long[] {low, low + 1, high - 1, high}) {
            if (n >= low && n <= high) {
                Harness.due("fault 4 of " + text + " with " + n,
                    Harness.faultOf(Harness.read(text.replace("$", "" + n))).startsWith("4@"), false);
            }
        }
        if (low > 0) {
            Harness.dueFault(text.replace("$", "" + (low - 1)), "4@" + place);
        }
        for (String n : new String[] {"" + (high + 1), "0x" + Long.toHexString(high + 1), "00" + (high + 1), "256" + high}) {
            Harness.dueFault(text.replace("$", n), "4@" + place);
        }
    }

    /** 4 NUMBER: a NUMBER that is not in its bounds. */
    private static void numberBounds() {
        dueBounds("word $;", 1, 64);
        dueBounds("word 8; reg a $;", 1, 32);
        dueBounds("word 8; reg a[8] $;", 1, 32);
        dueBounds("word 8; mem a[8] $;", 1, 32);
        dueBounds("word 8; def f() $ = 1:1;", 1, 32);
        dueBounds("word 8; def f(a $) 1 = 1:1;", 1, 32);
        dueBounds("word 8; def f(b 1, a $, c 1) 1 = 1:1;", 1, 32);
        dueBounds("word 8; ins i a:$ {}", 1, 32);
        dueBounds("word 8; ins i 1 a:$ 1 {}", 1, 32);
        dueBounds("word 8; def f() 1 = sx(1:1, $);", 1, 32);
        dueBounds("word 8; def f() 1 = zx(1:1, $);", 1, 32);
        dueBounds("word 8; def f() 1 = 0:$;", 1, 32);
        dueBounds("word 8; mem a[$] 8;", 1, 20);
        dueBounds("word 8; ins i 00000000 { rep n $ {} }", 1, 255);
        dueBounds("word 8; ins i 00000000 { raise $; }", 0, 255);
        dueBounds("word 8; def f(a 32) 1 = a.$:0;", 0, 31);
        dueBounds("word 8; def f(a 32) 1 = a.31:$;", 0, 31);
        for (int n = 0; n <= 130; n++) {
            boolean right = n == 2 || n == 4 || n == 8 || n == 16 || n == 32 || n == 64;
            Harness.dueFault("word 8; reg a[" + n + "] 8;", right ? "none" : "4@14");
        }
        Harness.dueFault("word 8; reg a[1073741824] 8;", "4@14");
        Harness.dueFault("word 8; reg a[2147483648] 8;", "4@14");
        Harness.dueFault("word 8; reg a[4294967298] 8;", "4@14");
        // The first place counts.
        Harness.dueFaultAt(4, "word $0; reg a[3] 99;");
        Harness.dueFaultAt(4, "word 8; reg a[$3] 99;");
        Harness.dueFaultAt(4, "word 8; def f(a $0) 0 = 1:0;");
    }

    /** 4: a value: below 2 to the power of its width (when that is right). */
    private static void numberValues() {
        for (int width = 1; width <= 32; width++) {
            long over = 1L << width;
            Harness.dueSound("word 8; def f() " + width + " = 0:" + width + ";");
            Harness.dueSound("word 8; def f() " + width + " = " + (over - 1) + ":" + width + ";");
            Harness.dueSound("word 8; def f() " + width + " = 0x" + Long.toHexString(over - 1) + ":" + width + ";");
            Harness.dueFaultAt(4, "word 8; def f() " + width + " = $" + over + ":" + width + ";");
            Harness.dueFaultAt(4, "word 8; def f() " + width + " = $" + (over + 1) + ":" + width + ";");
        }
        Harness.dueFaultAt(4, "word 8; def f() 8 = 1:$0;");
        Harness.dueFaultAt(4, "word 8; def f() 8 = 0:$0;");
        Harness.dueFaultAt(4, "word 8; def f() 8 = 8589934592:$33;");
        Harness.dueFaultAt(4, "word 8; def f() 8 = 99999999999999999999999999999999:$64;");
        Harness.dueFaultAt(4, "word 8; def f() 8 = $99999999999999999999999999999999:32;");
    }

    /** 4: of a slice 0 .. 31, the first one not below the second (told by the second). */
    private static void numberSlices() {
        String def = "word 8; def f(a 32) 1 = ";
        for (int n = 0; n <= 31; n++) {
            Harness.dueSound(def + "a." + n + ":" + n + ";");
            if (n < 31) {
                Harness.dueFaultAt(4, def + "a." + n + ":$" + (n + 1) + ";");
                Harness.dueFaultAt(4, def + "a." + n + ":$31;");
            }
        }
        Harness.dueFaultAt(4, def + "a.$32:0;");
        Harness.dueFaultAt(4, def + "a.$32:32;");
        Harness.dueFaultAt(4, def + "a.$32:33;");
        Harness.dueFaultAt(4, def + "a.31:$32;");
        Harness.dueFaultAt(4, def + "a.0:$32;");
        Harness.dueFaultAt(4, def + "a.3:0.0:$3;");
    }

    /** 4: a part without a name: digits 0 and 1 alone (no 0x). */
    private static void numberParts() {
        for (int digit = 0; digit <= 9; digit++) {
            Harness.dueFault("word 1; ins i " + digit + " {}", digit <= 1 ? "none" : "4@14");
            Harness.dueFault("word 3; ins i 1" + digit + "0 {}", digit <= 1 ? "none" : "4@14");
            Harness.dueFault("word 3; ins i 1 0" + digit + " {}", digit <= 1 ? "none" : "4@16");
        }
        Harness.dueFaultAt(4, "word 1; ins i $0x1 {}");
        Harness.dueFaultAt(4, "word 3; ins i $0x0 {}");
        Harness.dueFaultAt(4, "word 10; ins i $0x00000000 {}");
        Harness.dueSound("word 32; ins i " + "10".repeat(16) + " {}");
        Harness.dueFaultAt(4, "word 32; ins i $" + "10".repeat(15) + "12 {}");
    }

    /** 5 TWICE: a NAME of a statement that a statement before it has. (Told by the NAME.) */
    private static void twiceStatements() {
        String[] kinds = {"reg $n 8;", "mem $n[8] 8;", "def $n() 8 = 1:8;", "ins $n 00000000 {}"};
        for (String one : kinds) {
            Harness.dueSound("word 8; " + one.replace("$", ""));
            for (String two : kinds) {
                Harness.dueFaultAt(5, "word 8; " + one.replace("$", "") + " reg q 8; " + two);
                Harness.dueFaultAt(5, "word 8; " + one.replace("$", "") + two + one.replace("$", ""));
            }
        }
        Harness.dueSound("word 8; reg n 8; reg N 8; reg n_ 8; reg _n 8; reg nn 8; reg n0 8;");
    }

    /** 5: a parameter or part's name that is in its list before; others may hide a statement's. */
    private static void twiceLists() {
        Harness.dueFaultAt(5, "word 8; def f(a 8, $a 8) 8 = a;");
        Harness.dueFaultAt(5, "word 8; def f(a 8, b 8, c 8, $a 1, b 8) 8 = a;");
        Harness.dueFaultAt(5, "word 8; ins i a:4 $a:4 {}");
        Harness.dueFaultAt(5, "word 8; ins i a:1 1 b:1 0 $a:4 {}");
        Harness.dueSound("word 8; def f(a 8) 8 = a; def g(a 8) 8 = a; ins i a:8 {} ins j a:8 {}");
        Harness.dueSound("word 8; reg a 8; mem b[8] 8; def c() 8 = 1:8; def f(a 8, b 8, c 8, f 8, i 8) 8 = a; ins i a:4 i:4 {}");
        Harness.dueSound("word 8; ins i a:8 {} reg a 8; def f(a 8, i 8, f 8) 8 = a;");
    }

    /** 5: a rep's name that a part, or a rep around it has. */
    private static void twiceReps() {
        String ins = "word 8; reg b 1; ins i p:8 {";
        Harness.dueFaultAt(5, ins + "rep $p 2 {} }");
        Harness.dueFaultAt(5, ins + "if b { if b {} else { rep $p 2 {} } } }");
        Harness.dueFaultAt(5, ins + "rep n 2 { rep $n 2 {} } }");
        Harness.dueFaultAt(5, ins + "rep n 2 { rep m 2 { if b { rep $n 2 {} } } } }");
        Harness.dueFaultAt(5, ins + "rep n 2 { if b {} else { rep $n 2 {} } } }");
        Harness.dueFaultAt(5, ins + "rep n 2 { rep m 2 {} rep $n 2 {} } }");
        Harness.dueSound(ins + "rep n 2 {} rep n 2 {} }");
        Harness.dueSound(ins + "rep n 2 { rep m 2 {} rep m 2 {} } rep m 2 { rep n 2 {} } }");
        Harness.dueSound(ins + "if b { rep n 2 {} } else { rep n 2 {} } }");
        Harness.dueSound(ins + "rep b 2 {} rep i 2 {} } ins j q:8 { rep p 2 {} }");
    }

    /** 6 UNKNOWN: a NAME in an expression or before = that is none that can be seen. */
    private static void unknownNames() {
        String head = "word 8; reg a 8; reg R[4] 8; mem M[8] 8; def f(x 8) 8 = x; ";
        for (String use : new String[] {
            "$q", "$q[1:2]", "$q(a)", "$q()", "a + $q", "~$q", "$q.7:0", "R[$q]", "f($q)", "sx($q, 8)", "cat(a, $q).7:0", "a == $q ? a : a",
            "1:1 ? $q : a", "1:1 ? a : $q", "($q)"}) {
            Harness.dueFaultAt(6, head + "def g() 8 = " + use + ";");
        }
        for (String action : new String[] {"$q = a;", "$q[a] = a;", "a = $q;", "M[$q] = a;", "if $q {}", "if 1:1 { $q = a; }",
            "if 1:1 {} else { $q = a; }", "rep n 2 { $q = n; }", "$q = q;", "$p[q] = q;"}) {
            Harness.dueFaultAt(6, head + "ins i 00000000 {" + action + "}");
            // Before all other statements, too.
            Harness.dueFaultAt(6, "word 8; ins i 00000000 {" + action + "} reg a 8; mem M[8] 8;");
        }
        Harness.dueFaultAt(6, "word 8; ins i 00000000 { $q = 1:8; }");
    }

    /** 6: parameters (in their helper), parts and reps around it (in their instruction), else statements, in the whole text. */
    private static void unknownScopes() {
        String head = "word 8; reg a 8; ";
        Harness.dueSound(head + "def f(x 8) 8 = x;");
        Harness.dueFaultAt(6, head + "def f(x 8) 8 = x; def g() 8 = $x;");
        Harness.dueFaultAt(6, head + "def g() 8 = $x; def f(x 8) 8 = x;");
        Harness.dueFaultAt(6, head + "def f(x 8) 8 = x; ins i 00000000 { a = $x; }");
        Harness.dueSound(head + "ins i p:8 { a = p; if p == a { rep n 2 { a = p + n; } } else { a = p; } }");
        Harness.dueFaultAt(6, head + "ins i p:8 {} ins j 00000000 { a = $p; }");
        Harness.dueFaultAt(6, head + "ins j 00000000 { a = $p; } ins i p:8 {}");
        Harness.dueFaultAt(6, head + "ins i p:8 {} def f() 8 = $p;");
        Harness.dueFaultAt(6, head + "ins i p:8 { rep n 2 { a = n; } a = $n; }");
        Harness.dueFaultAt(6, head + "ins i p:8 { a = $n; rep n 2 { a = n; } }");
        Harness.dueFaultAt(6, head + "ins i p:8 { if a == a { rep n 2 { a = n; } } else { a = $n; } }");
        Harness.dueFaultAt(6, head + "ins i p:8 { rep n 2 { rep m 2 {} a = $m; } }");
        Harness.dueFaultAt(6, head + "ins i p:8 { rep n 2 {} } ins j p:8 { a = $n; }");
        Harness.dueSound("word 8; ins i 00000000 { a = f(R[0:2]); R[0:2] = M[a]; } def f(x 8) 8 = g(x) + a; def g(x 8) 8 = x;"
            + " mem M[8] 8; reg R[4] 8; reg a 8;");
        // The word and the words are no statements.
        Harness.dueFaultAt(2, "word 8; def f() 8 = $word;");
    }

    private static final String KINDS = "word 8; reg r 8; reg R[4] 8; mem M[8] 8; def h(x 8) 8 = x; ins k 00000000 {} ";

    /** 7 MEANING: a value's NAME that is a mem, a helper, an instruction, or a reg in brackets. */
    private static void meaningOfValues() {
        for (String name : new String[] {"M", "h", "k", "R", "g"}) {
            Harness.dueFaultAt(7, KINDS + "def g() 8 = $" + name + ";");
            Harness.dueFaultAt(7, KINDS + "def g() 8 = r + ~$" + name + ".7:0;");
        }
        Harness.dueSound(KINDS + "def g() 8 = r;");
        Harness.dueFaultAt(7, KINDS + "ins g 00000000 { r = $g; }");
    }

    /** 7: with "[" one that is no mem and no reg in brackets. */
    private static void meaningOfIndexes() {
        for (String name : new String[] {"r", "h", "k", "g"}) {
            Harness.dueFaultAt(7, KINDS + "def g() 8 = $" + name + "[r];");
        }
        Harness.dueSound(KINDS + "def g() 8 = M[r] + R[0:2];");
    }

    /** 7: with "(" one that is no helper, or has not as many parameters. */
    private static void meaningOfCalls() {
        for (String name : new String[] {"r", "M", "R", "k"}) {
            Harness.dueFaultAt(7, KINDS + "def g() 8 = $" + name + "(r);");
            Harness.dueFaultAt(7, KINDS + "def g() 8 = $" + name + "();");
        }
        for (int parameters = 0; parameters <= 4; parameters++) {
            String list = "a 8, b 8, c 8, d 8".substring(0, Math.max(0, 5 * parameters - 2));
            for (int arguments = 0; arguments <= 5; arguments++) {
                String given = "r, r, r, r, r".substring(0, Math.max(0, 3 * arguments - 2));
                String head = KINDS + "def p(" + list + ") 8 = 1:8; def g() 8 = ";
                Harness.dueFault(head + "p(" + given + ");", parameters == arguments ? "none" : "7@" + head.length());
            }
        }
    }

    /** 7: before = without "[" one that is no reg, or one in brackets, with it as there. */
    private static void meaningOfTargets() {
        for (String name : new String[] {"M", "h", "k", "R", "i"}) {
            Harness.dueFaultAt(7, KINDS + "ins i 00000000 { $" + name + " = r; }");
        }
        for (String name : new String[] {"r", "h", "k", "i"}) {
            Harness.dueFaultAt(7, KINDS + "ins i 00000000 { $" + name + "[r] = r; }");
        }
        Harness.dueSound(KINDS + "ins i 00000000 { r = r; M[r] = r; R[3:2] = r; }");
        Harness.dueFaultAt(7, "word 8; ins i 00000000 { $i = 1:8; }");
        Harness.dueFaultAt(7, "word 8; ins i 00000000 { $i[1:8] = 1:8; }");
    }

    /** 7: hidden ones are what hides them (in an expression a number, else none of these). */
    private static void meaningOfHidden() {
        for (String name : new String[] {"r", "M", "h", "k", "R", "new"}) {
            Harness.dueSound(KINDS + "def g(" + name + " 8) 8 = " + name + " + " + name + ";");
            Harness.dueFaultAt(7, KINDS + "def g(" + name + " 8) 8 = $" + name + "[" + name + "];");
            Harness.dueFaultAt(7, KINDS + "def g(" + name + " 8) 8 = $" + name + "(" + name + ");");
            String ins = KINDS + "reg o 8; ins i " + name + ":8 {";
            Harness.dueSound(ins + "o = " + name + "; }");
            Harness.dueFaultAt(7, ins + "$" + name + " = o; }");
            Harness.dueFaultAt(7, ins + "$" + name + "[o] = o; }");
            Harness.dueFaultAt(7, ins + "o = $" + name + "[o]; }");
            Harness.dueFaultAt(7, ins + "o = $" + name + "(o); }");
            String rep = KINDS + "reg o 8; ins i q:8 { rep " + name + " 3 {";
            Harness.dueSound(rep + "o = " + name + "; } }");
            Harness.dueFaultAt(7, rep + "$" + name + " = o; } }");
            Harness.dueFaultAt(7, rep + "$" + name + "[o] = o; } }");
            Harness.dueFaultAt(7, rep + "o = $" + name + "[o]; } }");
            Harness.dueFaultAt(7, rep + "o = $" + name + "(o); } }");
        }
        // Behind its body a rep hides nothing.
        Harness.dueSound(KINDS + "ins i q:8 { rep r 3 {} r = q; rep M 3 {} M[q] = r; rep h 3 {} r = h(q); }");
    }

    /** 8 RING: a helper that calls itself by way of any (told by its NAME in def). */
    private static void rings() {
        Harness.dueFaultAt(8, "word 1; def $f() 1 = f();");
        Harness.dueFaultAt(8, "word 1; def $f(x 1) 1 = f(f(f(x)));");
        Harness.dueFaultAt(8, "word 1; def z() 1 = f(); def $f() 1 = g(); def g() 1 = h(); def h() 1 = f();");
        Harness.dueFaultAt(8, "word 1; def $z() 1 = f(); def f() 1 = g(); def g() 1 = z();");
        Harness.dueFaultAt(8, "word 1; def $a() 1 = b(); def b() 1 = a(); def c() 1 = c();");
        Harness.dueFaultAt(8, "word 1; def a() 1 = b(); def $b() 1 = c(); def c() 1 = b();");
        Harness.dueSound("word 1; def a() 1 = b() + c() + d(); def b() 1 = c() + d(); def c() 1 = d() + d(); def d() 1 = 1:1;");
        Harness.dueSound("word 1; def d() 1 = 1:1; def c() 1 = d(); def b() 1 = c(); def a() 1 = b();");
        // An instruction calls, but is not called.
        Harness.dueSound("word 1; reg r 1; ins f d:1 { r = g(); } def g() 1 = r;");
        // The longest way back that a text has room for.
        StringBuilder text = new StringBuilder("word 1;");
        int many = 0;
        while (text.length() < 8192 - 40) {
            text.append("def f").append(many).append("()1=f").append(many + 1).append("();");
            many++;
        }
        Harness.dueSound(text + "def f" + many + "()1=1:1;");
        Harness.dueFault(text + "def f" + many + "()1=f0();", "8@11");
    }
}
