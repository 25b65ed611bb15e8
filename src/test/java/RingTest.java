/** Promise 9: ring, and fault 8. */
public final class RingTest {
    public static void main(String[] args) {
        Harness.due("a text without helpers", rings("word 8; reg a 8;"), "none");
        dueRing("f:f", "f");
        dueRing("f: g:g", "g");
        dueRing("f:g g:f", "f g");
        dueRing("f:g g:h h:f", "f g h");
        // One that only leads to a ring is none of it.
        dueRing("f:g g:g", "g");
        dueRing("x:a a:b b:c c:b", "b c");
        dueRing("f:g g:h h:g", "g h");
        // The first one of the text is told, whichever ring it is in.
        dueRing("p: q:r r:q a:b b:a", "q r");
        // By the fewest calls, and of several the first that is called.
        dueRing("a:b,c b:d c:a d:a", "a c");
        dueRing("a:b,c b:a c:a", "a b");
        dueRing("a:c,b b:a c:a", "a c");
        dueRing("a:b,a b:a", "a");
        dueRing("a:b b:c,a c:a", "a b");
        dueRing("a:b b:c,d c:e d:a e:a", "a b d");
        dueRing("a:b,c b:x c:y x:a y:a", "a b x");
        dueRing("a:n,b n: b:n,a", "a b");
        dueRing("a:b b:b,c c:a", "a b c");
        nested();
        wrong();
        Harness.finish("RingTest");
    }

    /** Helpers with those that they call, as a text; the ring's names are due. */
    private static void dueRing(String helpers, String due) {
        StringBuilder text = new StringBuilder("word 8; ");
        for (String helper : helpers.split(" ")) {
            String[] halves = helper.split(":");
            text.append("def ").append(halves[0]).append("() 8 = 1:8");
            for (String called : halves.length > 1 ? halves[1].split(",") : new String[0]) {
                text.append(" + ").append(called).append("()");
            }
            text.append("; ");
        }
        String all = text.toString();
        StringBuilder places = new StringBuilder();
        for (String name : due.split(" ")) {
            places.append(all.indexOf("def " + name + "(") + 4).append(' ');
        }
        Harness.due("ring of " + helpers, rings(all), places.toString().trim());
        Harness.due("fault of " + helpers, Harness.faultOf(Harness.read(all)), "8@" + places.toString().split(" ")[0]);
    }

    private static String rings(String text) {
        MachineText x = Harness.read(text);
        StringBuilder places = new StringBuilder();
        for (int k = 0; k < 100; k++) {
            int at = k;
            String place = Harness.answerOf(() -> x.ring(at));
            if (place.equals("IndexOutOfBoundsException")) {
                return k == 0 ? "none" : places.toString().trim();
            }
            places.append(place).append(' ');
        }
        return "endless";
    }

    /** Of calls in one another the outer one stands first in the text. */
    private static void nested() {
        Harness.due("nested calls", rings("word 8; def a(x 8) 8 = b(c(x)); def b(x 8) 8 = a(x); def c(x 8) 8 = a(x);"),
            "12 36");
        Harness.due("nested calls", rings("word 8; def a(x 8) 8 = c(b(x)); def b(x 8) 8 = a(x); def c(x 8) 8 = a(x);"),
            "12 57");
        // A parameter that hides a helper calls nothing.
        Harness.dueSound("word 8; def a(a 8) 8 = a; def b(c 8) 8 = c; def c(b 8) 8 = b;");
        Harness.dueSound("word 8; ins i 00000000 { x = a(x); } reg x 8; def a(x 8) 8 = x;");
    }

    private static void wrong() {
        MachineText x = Harness.read("word 8; def f() 8 = f();");
        Harness.dueCall("ring(0)", () -> x.ring(0), 12);
        Harness.dueCall("ring(1)", () -> x.ring(1), "IndexOutOfBoundsException");
        Harness.dueCall("ring(-1)", () -> x.ring(-1), "IndexOutOfBoundsException");
        Harness.dueCall("ring(MAX)", () -> x.ring(Integer.MAX_VALUE), "IndexOutOfBoundsException");
        // A ring is there only when the fault is 8.
        Harness.feed(x, "word 8; def f() 8 = f(); def g() 8 = zz;");
        Harness.readAgain(x);
        Harness.due("fault", Harness.faultOf(x), "6@37");
        Harness.dueCall("ring(0)", () -> x.ring(0), "IndexOutOfBoundsException");
        Harness.feed(x, "word 8; def f() 8 = f();");
        Harness.readAgain(x);
        Harness.feed(x, "word 8; def f() 8 = 1:8;");
        Harness.dueCall("ring(0) before the next read", () -> x.ring(0), 12);
        Harness.readAgain(x);
        Harness.dueCall("ring(0)", () -> x.ring(0), "IndexOutOfBoundsException");
        // A ring is told before widths and bits.
        Harness.dueFaultAt(8, "word 8; ins i {} def g() 8 = 1:1; def $f() 8 = f();");
    }
}
