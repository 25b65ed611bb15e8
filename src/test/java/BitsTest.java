/** Promise 7: bits. */
public final class BitsTest {
    public static void main(String[] args) {
        ordinary();
        wide();
        wrong();
        Harness.finish("BitsTest");
    }

    private static void due(String word, String parts, long ones, long told) {
        MachineText x = Harness.read("word " + word + "; reg a 8; ins i " + parts + " { raise 1; }");
        Harness.due("fault of " + parts, Harness.faultOf(x), "none");
        Harness.due("bits(1, 0) of " + parts, x.bits(1, 0), ones);
        Harness.due("bits(1, 1) of " + parts, x.bits(1, 1), told);
    }

    private static void ordinary() {
        due("16", "0001 d:8 0000", 0x1000, 0xf00f);
        due("8", "d:4 1010", 0x0a, 0x0f);
        due("8", "1010 d:4", 0xa0, 0xf0);
        due("8", "a:1 1 b:2 01 c:2", 0x44, 0x4c);
        due("8", "a:8", 0, 0);
        due("8", "00000000", 0, 0xff);
        due("8", "1 1 1 1 1 1 1 1", 0xff, 0xff);
        due("1", "1", 1, 1);
        due("4", "a:0x2 0 1", 1, 3);
    }

    private static void wide() {
        String ones = "1".repeat(32);
        String noughts = "0".repeat(32);
        due("64", ones + " " + ones, -1L, -1L);
        due("64", ones + " " + noughts, 0xffffffff00000000L, -1L);
        due("64", "1 a:31 b:32", Long.MIN_VALUE, Long.MIN_VALUE);
        due("64", "a:32 " + ones, 0xffffffffL, 0xffffffffL);
        due("64", ones + " a:32", 0xffffffff00000000L, 0xffffffff00000000L);
        due("33", "1 a:32", 1L << 32, 1L << 32);
    }

    private static void wrong() {
        MachineText x = Harness.read("word 8; reg a 8; mem M[8] 8; def f() 8 = 1:8; ins i 10101010 {}");
        for (int k = 0; k < 3; k++) {
            int at = k;
            Harness.dueCall("bits(" + k + ", 0)", () -> x.bits(at, 0), "IllegalStateException");
            Harness.dueCall("bits(" + k + ", 1)", () -> x.bits(at, 1), "IllegalStateException");
            Harness.dueCall("bits(" + k + ", 2)", () -> x.bits(at, 2), "IndexOutOfBoundsException");
        }
        Harness.dueCall("bits(3, 0)", () -> x.bits(3, 0), 0xaa);
        Harness.dueCall("bits(3, -1)", () -> x.bits(3, -1), "IndexOutOfBoundsException");
        Harness.dueCall("bits(3, 2)", () -> x.bits(3, 2), "IndexOutOfBoundsException");
        Harness.dueCall("bits(4, 0)", () -> x.bits(4, 0), "IndexOutOfBoundsException");
        Harness.dueCall("bits(-1, 0)", () -> x.bits(-1, 0), "IndexOutOfBoundsException");
    }
}
