/** Promise 5: the faults from 4 on, with their places and their order. */
public final class FaultTest {
    private static final String HEAD =
        "word 8; reg a 8; reg b 1; reg w 16; reg R[4] 8; mem M[8] 8; def f(x 8, y 1) 8 = x; ";

    public static void main(String[] args) {
        answers();
        numbers();
        valueNumbers();
        twice();
        unknown();
        meaning();
        hidden();
        widths();
        actionWidths();
        bits();
        order();
        Harness.finish("FaultTest");
    }

    private static void answers() {
        MachineText x = new MachineText();
        Harness.due("fault(0) of nothing read", x.fault(0), 0);
        for (int what : new int[] {-1, 2, 3, Integer.MIN_VALUE, Integer.MAX_VALUE}) {
            Harness.dueCall("fault(" + what + ")", () -> x.fault(what), "IndexOutOfBoundsException");
        }
        Harness.feed(x, "word 8; reg a 99;");
        Harness.readAgain(x);
        Harness.due("fault", Harness.faultOf(x), "4@14");
        // A fault stays until the next read, and is gone then.
        Harness.feed(x, "word 8;");
        Harness.due("fault", Harness.faultOf(x), "4@14");
        Harness.readAgain(x);
        Harness.due("fault", Harness.faultOf(x), "none");
        Harness.dueCall("fault(2)", () -> x.fault(2), "IndexOutOfBoundsException");
    }

    /** Both bounds of a NUMBER, where $ stands for it; the text is sound within them. */
    private static void bounds(String text, int low, int high) {
        for (int n : new int[] {low, high}) {
            MachineText x = Harness.read(text.replace("$", "" + n));
            Harness.due("fault 4 of " + text + " with " + n, x.fault(0) == 4, false);
        }
        for (String n : new String[] {"" + (high + 1), "4294967297", "99999999999999999999999999999999"}) {
            Harness.dueFault(text.replace("$", n), "4@" + text.indexOf('$'));
        }
        if (low > 0) {
            Harness.dueFault(text.replace("$", "" + (low - 1)), "4@" + text.indexOf('$'));
        }
    }

    private static void numbers() {
        bounds("word $;", 1, 64);
        bounds("word 8; reg a $;", 1, 32);
        bounds("word 8; reg a[2] $;", 1, 32);
        bounds("word 8; reg a[$] 8;", 2, 64);
        for (int n = 2; n <= 64; n++) {
            boolean power = n == 2 || n == 4 || n == 8 || n == 16 || n == 32 || n == 64;
            Harness.dueFault("word 8; reg a[" + n + "] 8;", power ? "none" : "4@14");
        }
        bounds("word 8; mem a[$] 8;", 1, 20);
        bounds("word 8; mem a[8] $;", 1, 32);
        bounds("word 8; def f(x $) 1 = x;", 1, 32);
        bounds("word 8; def f(y 1, x $) 1 = y;", 1, 32);
        bounds("word 8; def f() $ = 1:1;", 1, 32);
        bounds("word 8; ins i a:$ {}", 1, 32);
        bounds("word 8; ins i 00000000 { rep n $ {} }", 1, 255);
        bounds("word 8; ins i 00000000 { raise $; }", 0, 255);
        bounds("word 8; def f(x 1) 8 = sx(x, $);", 1, 32);
        bounds("word 8; def f(x 1) 8 = zx(x, $);", 1, 32);
        bounds("word 8; def f(x 32) 8 = x.$:0;", 0, 31);
        bounds("word 8; def f(x 32) 8 = x.31:$;", 0, 31);
        bounds("word 8; def f() 8 = 0:$;", 1, 32);
        Harness.dueSound("word 8; def f(x 32) 1 = x.31:31;");
        Harness.dueSound("word 8; def f(x 32) 1 = x.0:0;");
        Harness.dueFaultAt(4, "word 8; def f(x 32) 1 = x.0:$1;");
        Harness.dueFaultAt(4, "word 8; def f(x 32) 1 = x.30:$31;");
        Harness.dueFaultAt(4, "word 8; def f(x 32) 1 = x.$40:41;");
        Harness.dueFaultAt(4, "word 8; ins i $2 {}");
        Harness.dueFaultAt(4, "word 8; ins i $01010102 {}");
        Harness.dueFaultAt(4, "word 8; ins i 0 $0x1 {}");
        Harness.dueFaultAt(4, "word 8; ins i 0 $0x0 {}");
        // The first one of the text counts.
        Harness.dueFaultAt(4, "word 8; reg a $33; reg b 0; reg c[3] 99;");
    }

    private static void valueNumbers() {
        for (int width = 1; width <= 32; width++) {
            long most = (1L << width) - 1;
            Harness.dueSound("word 8; def f() " + width + " = " + most + ":" + width + ";");
            Harness.dueSound("word 8; def f() " + width + " = 0x" + Long.toHexString(most) + ":" + width + ";");
            Harness.dueFaultAt(4, "word 8; def f() " + width + " = $" + (most + 1) + ":" + width + ";");
        }
        Harness.dueFaultAt(4, "word 8; def f() 8 = $99999999999999999999999999999999:32;");
        Harness.dueFaultAt(4, "word 8; def f() 8 = $18446744073709551616:32;");
        // A value's number is asked only when its width is right.
        Harness.dueFaultAt(4, "word 8; def f() 8 = 999:$0;");
        Harness.dueFaultAt(4, "word 8; def f() 8 = 99999999999:$33;");
    }

    private static void twice() {
        Harness.dueFaultAt(5, "word 8; reg a 8; reg b 8; mem $a[8] 8; ins b 00000000 {}");
        Harness.dueFaultAt(5, "word 8; ins i 00000000 {} def $i() 8 = 1:8;");
        Harness.dueFaultAt(5, "word 8; def f(a 8, b 8, $a 8) 8 = a;");
        Harness.dueFaultAt(5, "word 8; ins i a:4 $a:4 {}");
        Harness.dueFaultAt(5, "word 8; ins i a:8 { rep $a 3 {} }");
        Harness.dueFaultAt(5, "word 8; ins i a:8 { rep n 3 { rep m 3 { rep $n 3 {} } } }");
        // Names beside each other, and others than these, may be alike.
        Harness.dueSound("word 8; ins i a:8 { rep n 3 {} rep n 3 {} }");
        Harness.dueSound("word 8; ins i a:8 { rep n 3 { rep m 3 {} rep m 4 {} } rep m 5 { rep n 3 {} } }");
        Harness.dueSound("word 8; reg a 8; def f(a 1) 1 = a; def g(a 2) 2 = a; ins i a:8 {} ins j a:8 { rep i 3 {} }");
        Harness.dueSound("word 8; def f(f 8) 8 = f; ins i i:8 {}");
        Harness.dueSound("word 8; ins i 00000000 { rep i 8 {} } ins j n:8 {} ins k n:8 {}");
    }

    private static void unknown() {
        String ins = HEAD + "ins i q:8 {";
        Harness.dueFaultAt(6, ins + "a = $c; }");
        Harness.dueFaultAt(6, ins + "a = $c[1:2]; }");
        Harness.dueFaultAt(6, ins + "a = $c(a); }");
        Harness.dueFaultAt(6, ins + "$c = a; }");
        Harness.dueFaultAt(6, ins + "$c[a] = a; }");
        Harness.dueFaultAt(6, ins + "R[$c] = d; }");
        Harness.dueFaultAt(6, ins + "$d = c; }");
        Harness.dueFaultAt(6, ins + "if $c {} }");
        // Parameters, parts and reps are seen in their own helper, instruction and body.
        Harness.dueFaultAt(6, ins + "a = $x; }");
        Harness.dueFaultAt(6, HEAD + "def g() 8 = $x;");
        Harness.dueFaultAt(6, ins + "} ins j 00000000 { a = $q; }");
        Harness.dueFaultAt(6, ins + "rep n 3 { a = n; } a = $n; }");
        Harness.dueFaultAt(6, ins + "a = $n; rep n 3 {} }");
        Harness.dueFaultAt(6, ins + "} def g() 8 = $q;");
        Harness.dueSound(ins + "rep n 3 { if b { a = n; } else { a = n + q; } a = n; } }");
        // Statements are seen in the whole text.
        Harness.dueSound("word 8; ins i 00000000 { a = f(a); } def f(x 8) 8 = x + a; reg a 8;");
    }

    private static void meaning() {
        String ins = HEAD + "ins i q:8 {";
        for (String name : new String[] {"M", "R", "f", "i"}) {
            Harness.dueFaultAt(7, ins + "a = $" + name + "; }");
            Harness.dueFaultAt(7, ins + "$" + name + " = a; }");
        }
        for (String name : new String[] {"a", "f", "i"}) {
            Harness.dueFaultAt(7, ins + "a = $" + name + "[a]; }");
            Harness.dueFaultAt(7, ins + "$" + name + "[a] = a; }");
        }
        for (String name : new String[] {"a", "M", "R", "i"}) {
            Harness.dueFaultAt(7, ins + "a = $" + name + "(a, b); }");
        }
        Harness.dueFaultAt(7, ins + "a = $f(a); }");
        Harness.dueFaultAt(7, ins + "a = $f(); }");
        Harness.dueFaultAt(7, ins + "a = $f(a, b, b); }");
        Harness.dueSound(ins + "a = f(a, b); R[2:2] = M[a]; M[R[0:2]] = R[3:2]; }");
    }

    private static void hidden() {
        String head = "word 8; reg a 8; reg R[4] 8; mem M[8] 8; def f(x 8) 8 = x; ";
        Harness.dueSound(head + "def g(M 8, R 8, f 8, g 8) 8 = M + R + f + g;");
        Harness.dueSound(head + "ins i M:4 R:4 { rep f 3 { a = f + cat(M, R); } a = f(a); }");
        Harness.dueFaultAt(7, head + "def g(M 8) 8 = $M[M];");
        Harness.dueFaultAt(7, head + "def g(f 8) 8 = $f(f);");
        Harness.dueFaultAt(7, head + "def g(x 8) 8 = $x[x];");
        Harness.dueFaultAt(7, head + "def g(x 8) 8 = $x(x);");
        Harness.dueFaultAt(7, head + "ins i a:8 { $a = a; }");
        Harness.dueFaultAt(7, head + "ins i q:8 { $q = a; }");
        Harness.dueFaultAt(7, head + "ins i R:8 { $R[0:2] = a; }");
        Harness.dueFaultAt(7, head + "ins i q:8 { rep a 3 { $a = 1:8; } }");
        Harness.dueFaultAt(7, head + "ins i q:8 { rep n 3 { if n == n { $n = 1:8; } } }");
        Harness.dueSound(head + "ins i q:8 { rep a 3 {} a = a; }");
        Harness.dueFaultAt(6, head + "ins i q:8 { q = a; a = $c; }");
        // A hidden register has the width of what hides it.
        Harness.dueSound(head + "def g(a 1) 1 = a; def h(a 9) 9 = a;");
        Harness.dueFaultAt(9, head + "def g(a 1) 8 = $a;");
    }

    private static void dueWidth(String marked) {
        Harness.dueFaultAt(9, HEAD + "def g(v 4) 8 = " + marked + ";");
    }

    private static void widths() {
        for (String sign : "+ - * & | ^".split(" ")) {
            dueWidth("$a " + sign + " b");
            Harness.dueSound(HEAD + "def g(v 4) 4 = v " + sign + " v;");
        }
        for (String sign : "== != <".split(" ")) {
            dueWidth("sx($a " + sign + " b, 8)");
            Harness.dueSound(HEAD + "def g(v 4) 1 = v " + sign + " v;");
        }
        dueWidth("$a ? a : a");
        dueWidth("$b ? a : v");
        dueWidth("b ? a : $v + a");
        dueWidth("$a.8:0");
        dueWidth("zx($b.1:1, 8)");
        dueWidth("$a.3:0.4:0");
        Harness.dueSound(HEAD + "def g(v 4) 3 = a.7:4.3:1;");
        dueWidth("$sx(w, 15).7:0");
        dueWidth("$zx(w, 8)");
        Harness.dueSound(HEAD + "def g(v 4) 16 = zx(w, 16) + sx(v, 16);");
        dueWidth("$cat(w, w, b).7:0");
        Harness.dueSound(HEAD + "def g(v 4) 32 = cat(w, w.15:1, b);");
        dueWidth("$M[v]");
        dueWidth("$R[v]");
        dueWidth("R[$R[v] + a]");
        dueWidth("$f(a, v)");
        dueWidth("$f(b, b)");
        dueWidth("$f(v, v)");
        // Shifts ask nothing of their right side, and have the width of the left.
        Harness.dueSound(HEAD + "def g(v 4) 8 = a << w >> b;");
        dueWidth("a << $v + a");
        // Of an expression with wrong ones in it nothing more is asked; the first place counts.
        dueWidth("b ? v : ($a + b) * v");
        dueWidth("f($a + b, v)");
        dueWidth("v * (v * ($a + b))");
        dueWidth("$a + b + (v + a)");
        dueWidth("(v << ($b + a)) + b + (a + v)");
        // Brackets of a left side belong to what they are in, those round it all do not.
        dueWidth("$(a) + b");
        dueWidth("($a + b)");
        dueWidth("(($((a)) + b))");
        dueWidth("($(a + a) * b) + a");
        dueWidth("~$(a).9:0");
        dueWidth("$(a) ? a : a");
        // A helper's width is told by its expression's first lexeme, brackets and all.
        dueWidth("$b");
        dueWidth("$(b)");
        dueWidth("$v << a");
        dueWidth("$cat(a, b)");
        dueWidth("$a == a");
    }

    private static void actionWidths() {
        String ins = HEAD + "ins i q:4 0000 {";
        Harness.dueFaultAt(9, ins + "$a = b; }");
        Harness.dueFaultAt(9, ins + "$b = a; }");
        Harness.dueFaultAt(9, ins + "$R[a] = a; }");
        Harness.dueFaultAt(9, ins + "$R[0:2] = b; }");
        Harness.dueFaultAt(9, ins + "$M[q] = a; }");
        Harness.dueFaultAt(9, ins + "$M[a] = q; }");
        Harness.dueFaultAt(9, ins + "a = $a + b; }");
        Harness.dueFaultAt(9, ins + "M[$a + b] = b; }");
        Harness.dueFaultAt(9, ins + "M[$a + b] = a + b; }");
        Harness.dueFaultAt(9, ins + "M[a] = ~($a + b); }");
        Harness.dueFaultAt(9, ins + "$R[a] = a + b; }");
        Harness.dueFaultAt(9, ins + "if $a {} }");
        Harness.dueFaultAt(9, ins + "if $(a) {} }");
        Harness.dueFaultAt(9, ins + "if ($a == b) {} }");
        Harness.dueFaultAt(9, ins + "if b {} else { $a = b; } }");
        Harness.dueFaultAt(9, ins + "rep n 3 { $w = n; } }");
        Harness.dueSound(ins + "rep n 3 { a = n; } if q == q {} if b {} R[q.1:0] = a; }");
        Harness.dueSound("word 1; reg A[2] 1; reg B[64] 1; mem C[1] 1; mem D[20] 1; reg e 1; reg g 6; reg h 20;"
            + " ins i 1 { A[e] = B[g]; C[e] = D[h]; B[g] = e; D[h] = A[e]; }");
    }

    private static void bits() {
        Harness.dueSound("word 1; ins i 0 {} ins j a:1 {}");
        Harness.dueSound("word 64; ins i " + "01".repeat(16) + " " + "1".repeat(32) + " {} ins j a:32 b:32 {}");
        Harness.dueFaultAt(10, "word 8; ins j 00000000 {} ins $i 0000000 {} ins k {}");
        Harness.dueFaultAt(10, "word 8; ins $i 000000000 {}");
        Harness.dueFaultAt(10, "word 8; ins $i a:4 00000 {}");
        Harness.dueFaultAt(10, "word 64; ins $i a:32 b:32 0 {}");
        Harness.dueFaultAt(10, "word 8; ins $i {}");
    }

    /** A lower number is told before a higher one, wherever they stand. */
    private static void order() {
        String[] faults = {
            "ins i10 0 {} ", "def i9() 8 = 1:1; ", "def i8() 8 = i8(); ", "def i7() 8 = R; ", "def i6() 8 = zz; ",
            "reg a 8; ", "reg i4 99; ", "def i3() 8 = " + "(".repeat(80) + "1:8" + ")".repeat(80) + "; "};
        int[] places = {4, 13, 4, 13, 13, 4, 7, 93};
        String text = "word 8; reg a 8; reg R[4] 8; ";
        for (int i = 0; i < faults.length; i++) {
            Harness.dueFault(text + faults[i], 10 - i + "@" + (text.length() + places[i]));
            text += faults[i];
        }
        Harness.dueFault(text + "@", "1@" + text.length());
        Harness.dueFaultAt(2, "word 8; $x " + text);
    }
}
