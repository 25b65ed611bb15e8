/** Promises 10, 11 and 12: print, out and again. */
public final class PrintTest {
    public static void main(String[] args) {
        statements();
        actions();
        needlessBrackets();
        neededBrackets();
        numbers();
        outs();
        agains();
        states();
        Harness.finish("PrintTest");
    }

    private static void statements() {
        Harness.duePrinted("word 8;reg a 8;reg R[4]8;mem M[8]8;def e()8=1:8;def f(x 8,y 1)8=x;",
            "word 8;\nreg a 8;\nreg R[4] 8;\nmem M[8] 8;\ndef e() 8 = 1:8;\ndef f(x 8, y 1) 8 = x;\n");
        Harness.duePrinted("word  8 ; reg  a  8 ; reg R [ 4 ] 8 ; mem M [ 8 ] 8 ; def f ( x 8 , y 1 ) 8 = x ;",
            "word 8;\nreg a 8;\nreg R[4] 8;\nmem M[8] 8;\ndef f(x 8, y 1) 8 = x;\n");
        Harness.duePrinted("word 8;ins i 0 1 00 d:1 e : 2 1{}ins j d:7 0{}",
            "word 8;\nins i 0 1 00 d:1 e:2 1 { }\nins j d:7 0 { }\n");
    }

    private static void dueBody(String body, String due) {
        String head = "word 8;\nreg a 8;\nreg b 1;\nreg R[4] 8;\n";
        Harness.duePrinted(head + "ins i d:8 {" + body + "}", head + "ins i d:8 { " + due + " }\n");
    }

    private static void actions() {
        dueBody("a=d;", "a = d;");
        dueBody("R [ 1:2 ]=R[2:2];", "R[1:2] = R[2:2];");
        dueBody("a=a;a=a;raise 3;raise 0 ;", "a = a; a = a; raise 3; raise 0;");
        dueBody("if b{}", "if b { }");
        dueBody("if b{}else{}", "if b { } else { }");
        dueBody("if b{a=a;}else{a=a;raise 1;}a=a;", "if b { a = a; } else { a = a; raise 1; } a = a;");
        dueBody("if b{}if b{}rep n 3{}rep n 4{a=n;}", "if b { } if b { } rep n 3 { } rep n 4 { a = n; }");
        dueBody("rep n 3{if b{rep m 2{}}}", "rep n 3 { if b { rep m 2 { } } }");
        dueBody("if(b){}", "if b { }");
        dueBody("if((a==a)){}", "if a == a { }");
        dueBody("if 1:1{}", "if 1:1 { }");
        dueBody("if a.0:0{}", "if a.0:0 { }");
        dueBody("if zx(b,1){}", "if zx(b, 1) { }");
        dueBody("if R[0:2]==a{}", "if R[0:2] == a { }");
        // Nothing else has a blank, so a word stands close to a sign.
        dueBody("if ~b{}", "if~b { }");
        dueBody("if - b{}", "if-b { }");
        dueBody("if (a==a)|b{}", "if(a == a) | b { }");
        dueBody("if (a+a).0:0{}", "if(a + a).0:0 { }");
    }

    private static void dueExpression(int width, String expression, String due) {
        String head = "word 8;\nreg a 8;\nreg b 1;\nreg R[4] 8;\ndef f(x 8, y 1) 8 = x;\ndef e() 8 = 1:8;\n";
        Harness.duePrinted(head + "def g() " + width + "=" + expression + ";",
            head + "def g() " + width + " = " + due + ";\n");
    }

    private static void needlessBrackets() {
        dueExpression(8, "(a)", "a");
        dueExpression(8, "(((a+a)))", "a + a");
        dueExpression(8, "(a*a)+a", "a * a + a");
        dueExpression(8, "a+(a*a)", "a + a * a");
        dueExpression(8, "(a-a)-a", "a - a - a");
        dueExpression(8, "(a<<a)>>a", "a << a >> a");
        dueExpression(8, "(a&a)&a", "a & a & a");
        dueExpression(8, "a|(a^(a&(a<<(a+(a*(~a))))))", "a | a ^ a & a << a + a * ~a");
        dueExpression(8, "-(-(~(a)))", "--~a");
        dueExpression(8, "~(a.7:0)", "~a.7:0");
        dueExpression(8, "(a.7:0).7:0", "a.7:0.7:0");
        dueExpression(8, "(R[(0:2)]).7:0", "R[0:2].7:0");
        dueExpression(8, "(5:8).7:0", "5:8.7:0");
        dueExpression(8, "f((a+a),(b))", "f(a + a, b)");
        dueExpression(8, "sx((a),8)", "sx(a, 8)");
        dueExpression(16, "cat((a),(a|a))", "cat(a, a | a)");
        dueExpression(8, "(a==a)?(b?a:a):(b?a:a)", "a == a ? b ? a : a : b ? a : a");
        dueExpression(1, "(a+a)==(a|a)", "a + a == a | a");
        dueExpression(8, "a*(-a)", "a * -a");
        dueExpression(8, "a-(-a)", "a - -a");
        dueExpression(8, "e ( )", "e()");
    }

    private static void neededBrackets() {
        String[] same = {
            "(a + a) * a", "a * (a + a)", "a - (a - a)", "a * (a * a)", "a << (a << a)", "a & (a & a)", "a ^ (a ^ a)",
            "a | (a | a)", "a + (a + a)", "(a | a) ^ a", "(a ^ a) & a", "(a & a) << a", "(a << a) + a", "-(a + a)",
            "~(a * a)", "(-a).7:0", "(a + a).7:0", "(a + a).7:0.7:0", "(b ? a : a) + a", "~(b ? a : a)",
            "(b ? b : b) ? a : a", "a + (b ? a : a)", "(a + a) * (a - a)", "((a + a) * a).7:0", "a + (a - a) * a"};
        for (String expression : same) {
            dueExpression(8, expression, expression);
        }
        dueExpression(1, "(a == a) == (a < a)", "(a == a) == (a < a)");
        dueExpression(1, "(a == a) | b", "(a == a) | b");
        dueExpression(1, "~(a == a)", "~(a == a)");
        dueExpression(1, "(b ? b : b) == b", "(b ? b : b) == b");
        // Of several pairs one is enough.
        dueExpression(8, "((a+a))*(((a+a)))", "(a + a) * (a + a)");
        dueExpression(8, "((((a))+a))*a", "(a + a) * a");
        dueExpression(8, "(((a+a)*a)+a)*a", "((a + a) * a + a) * a");
    }

    private static void numbers() {
        Harness.duePrinted("word 0x10;reg a 008;reg R[0x08]0x20;mem M[0x14]01;def f(x 0x0a)00000012=zx(x.007:0x0,0xc);",
            "word 16;\nreg a 8;\nreg R[8] 32;\nmem M[20] 1;\ndef f(x 10) 12 = zx(x.7:0, 12);\n");
        Harness.duePrinted("word 8;def f()32=0xffffffff:32+0x0:0x20+000:32+4294967295:32+10:32+0x64:32;",
            "word 8;\ndef f() 32 = 4294967295:32 + 0:32 + 0:32 + 4294967295:32 + 10:32 + 100:32;\n");
        Harness.duePrinted("word 8;ins i 0001 d:0x4{raise 0xff;raise 00;rep n 0x0f{}}",
            "word 8;\nins i 0001 d:4 { raise 255; raise 0; rep n 15 { } }\n");
    }

    private static void outs() {
        MachineText x = Harness.read("word 8;");
        Harness.dueCall("out(0) before print", () -> x.out(0), "IndexOutOfBoundsException");
        Harness.dueCall("print()", () -> x.print(), 8);
        String due = "word 8;\n";
        for (int i = 0; i < 8; i++) {
            Harness.due("out(" + i + ")", x.out(i), (int) due.charAt(i));
        }
        for (int i : new int[] {-1, 8, Integer.MAX_VALUE, Integer.MIN_VALUE}) {
            Harness.dueCall("out(" + i + ")", () -> x.out(i), "IndexOutOfBoundsException");
        }
    }

    private static void agains() {
        MachineText x = Harness.read("word 8;reg a 8;");
        x.feed(0x40404040, 0x40404040, 0x40404040, 0x40404040);
        Harness.dueCall("again() with nothing printed", () -> x.again(), 0);
        Harness.due("count(0)", x.count(0), 0);
        x.print();
        x.feed(0x40404040, 0x40404040, 0x40404040, 0x40404040);
        Harness.dueCall("again()", () -> x.again(), 17);
        Harness.due("count(0)", x.count(0), 17);
        Harness.dueCall("end(16)", () -> x.end(16), 17);
        Harness.dueCall("read()", () -> x.read(), 1);
        Harness.dueCall("print()", () -> x.print(), 17);
        Harness.dueCall("again() twice", () -> x.again() + x.again(), 34);
        x.feed(0x72656720, 0x6220383b, 0x20202020, 0x20202020);
        Harness.dueCall("read() of both", () -> x.read(), 2);
        Harness.due("printed", Harness.printed(x), "word 8;\nreg a 8;\nreg b 8;\n");
        longPrints();
    }

    /** A print of 8192 bytes comes as the text, one of 8193 does not. */
    private static void longPrints() {
        String head = "word 1;reg a 1;ins i 1{";
        int fixed = "word 1;\nreg a 1;\nins i 1 { }\n".length();
        for (int bytes = 8191; bytes <= 8194; bytes++) {
            int body = bytes - fixed;
            StringBuilder text = new StringBuilder(head);
            for (int i = 0; i < body / 7; i++) {
                text.append(i < body % 7 ? "a=~a;" : "a=a;");
            }
            text.append("}");
            MachineText x = Harness.read(text.toString());
            Harness.due("print()", x.print(), bytes);
            x.feed(1, 2, 3, 4);
            Harness.dueCall("again() of " + bytes, () -> x.again(), bytes <= 8192 ? bytes : "IllegalStateException");
            Harness.due("count(0)", x.count(0), bytes <= 8192 ? bytes : 16);
            Harness.due("out(8190)", x.out(8190) > 0, true);
        }
    }

    private static void states() {
        MachineText x = Harness.read("word 8;reg a 8;");
        Harness.dueCall("print()", () -> x.print(), 17);
        Harness.feed(x, "word 8; @");
        Harness.dueCall("print() with a text fed", () -> x.print(), 17);
        Harness.readAgain(x);
        Harness.dueCall("print() behind a fault", () -> x.print(), "IllegalStateException");
        // What was printed last stays.
        Harness.due("count(4)", x.count(4), 17);
        Harness.dueCall("out(16)", () -> x.out(16), 10);
        Harness.dueCall("again()", () -> x.again(), 17);
        Harness.dueCall("read()", () -> x.read(), 1);
        Harness.feed(x, "word 64;");
        Harness.readAgain(x);
        Harness.due("printed", Harness.printed(x), "word 64;\n");
        Harness.dueCall("out(9)", () -> x.out(9), "IndexOutOfBoundsException");
    }
}
