/** Promises 2 and 3: feed and end. */
public final class FeedTest {
    public static void main(String[] args) {
        order();
        ends();
        limit();
        Harness.finish("FeedTest");
    }

    /** The highest byte of a comes first, the lowest of d last; negative ints are four bytes, too. */
    private static void order() {
        MachineText x = new MachineText();
        Harness.due("feed", x.feed(0x776f7264, 0x20383b72, 0x65672061, 0x20383b0a), 16);
        Harness.due("count(0)", x.count(0), 16);
        Harness.due("feed", x.feed(0x23ffffff, 0xfffefdfc, -1, Integer.MIN_VALUE), 32);
        Harness.dueCall("read()", () -> x.read(), 1);
        Harness.due("printed", Harness.printed(x), "word 8;\nreg a 8;\n");
    }

    private static void ends() {
        MachineText x = new MachineText();
        Harness.dueCall("end(-1)", () -> x.end(-1), "IllegalArgumentException");
        Harness.dueCall("end(17)", () -> x.end(17), "IllegalArgumentException");
        Harness.dueCall("end(0)", () -> x.end(0), "IllegalStateException");
        x.feed(1, 2, 3, 4);
        Harness.dueCall("end(17)", () -> x.end(17), "IllegalArgumentException");
        Harness.dueCall("end(16)", () -> x.end(16), 16);
        Harness.dueCall("end(15)", () -> x.end(15), 15);
        Harness.dueCall("end(15) with 15", () -> x.end(15), "IllegalStateException");
        Harness.dueCall("end(MIN)", () -> x.end(Integer.MIN_VALUE), "IllegalArgumentException");
        Harness.due("count(0)", x.count(0), 15);
        Harness.due("feed", x.feed(5, 6, 7, 8), 31);
        Harness.dueCall("end(0)", () -> x.end(0), 15);
        Harness.due("feed", x.feed(5, 6, 7, 8), 31);
        Harness.dueCall("end(1)", () -> x.end(1), 16);
        Harness.dueCall("end(0) of all", () -> x.end(0), 0);
        Harness.dueCall("read()", () -> x.read(), "IllegalArgumentException");
        Harness.due("the fault of nothing", Harness.faultOf(x), "2@0");
    }

    /** What is printed is longer than what was fed, so the limit is come to with few calls. */
    private static void limit() {
        for (int last = 8175; last <= 8178; last++) {
            MachineText x = Harness.ofLength(last);
            boolean fits = last + 16 <= 8192;
            Harness.dueCall("feed at " + last, () -> x.feed(0, 0, 0, 0), fits ? last + 16 : "IllegalStateException");
            Harness.due("count(0)", x.count(0), fits ? last + 16 : last);
        }
        MachineText full = new MachineText();
        for (int i = 1; i < 512; i++) {
            full.feed(0x20202020, 0x20202020, 0x20202020, 0x20202020);
        }
        Harness.due("feed", full.feed(0, 0, 0, 0), 8192);
    }
}
