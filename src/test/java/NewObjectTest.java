/** Promise 1: an empty text, nothing read. */
public final class NewObjectTest {
    public static void main(String[] args) {
        MachineText x = new MachineText();
        Harness.due("NONE", MachineText.NONE, -1);
        for (int what = 0; what <= 4; what++) {
            Harness.due("count(" + what + ")", x.count(what), 0);
        }
        Harness.due("fault(0)", x.fault(0), 0);
        Harness.dueCall("statement(0, 0)", () -> x.statement(0, 0), "IndexOutOfBoundsException");
        Harness.dueCall("bits(0, 0)", () -> x.bits(0, 0), "IndexOutOfBoundsException");
        Harness.dueCall("node(0, 0)", () -> x.node(0, 0), "IndexOutOfBoundsException");
        Harness.dueCall("ring(0)", () -> x.ring(0), "IndexOutOfBoundsException");
        Harness.dueCall("out(0)", () -> x.out(0), "IndexOutOfBoundsException");
        Harness.dueCall("print()", () -> x.print(), "IllegalStateException");
        Harness.dueCall("end(16)", () -> x.end(16), "IllegalStateException");
        Harness.dueCall("again()", () -> x.again(), 0);
        Harness.dueCall("read()", () -> x.read(), "IllegalArgumentException");
        Harness.due("the fault of an empty text", Harness.faultOf(x), "2@0");
        Harness.finish("NewObjectTest");
    }
}
