import java.nio.charset.StandardCharsets;

/** What the tests share: feeding whole texts, and comparing answers with what is due. */
final class Harness {
    private static int wrong = 0;
    private static int asked = 0;

    private Harness() {
    }

    static void due(String call, Object got, Object want) {
        asked++;
        if (!String.valueOf(got).equals(String.valueOf(want))) {
            wrong++;
            System.out.println(call + " answered " + got + ", due is " + want);
        }
    }

    /** Ends the test: exit code 1 when an answer was wrong. */
    static void finish(String test) {
        System.out.println(test + ": " + asked + " answers, " + wrong + " wrong");
        if (wrong > 0) {
            System.exit(1);
        }
    }

    static int wrongAnswers() {
        return wrong;
    }

    /** A call whose answer or exception is asked for. */
    interface Call {
        long answer();
    }

    /** The answer as a text, or the name of the exception that the call throws. */
    static String answerOf(Call call) {
        try {
            return Long.toString(call.answer());
        } catch (RuntimeException e) {
            return e.getClass().getSimpleName();
        }
    }

    static void dueCall(String name, Call call, Object want) {
        due(name, answerOf(call), want);
    }

    /** A call that is refused: it throws what is due, and leaves all that can be asked for alone. */
    static void dueRefused(String name, MachineText x, Call call, String exception) {
        String before = stateOf(x);
        dueCall(name, call, exception);
        due("all the rest behind the refused " + name, stateOf(x), before);
    }

    /** All that an object answers without being changed by it. */
    static String stateOf(MachineText x) {
        StringBuilder all = new StringBuilder();
        for (int what = 0; what <= 4; what++) {
            all.append(x.count(what)).append(' ');
        }
        all.append(x.fault(0)).append('@').append(x.fault(1));
        for (int k = 0; k < x.count(2); k++) {
            int at = k;
            for (int what = 0; what <= 4; what++) {
                all.append(' ').append(x.statement(k, what));
            }
            all.append(' ').append(answerOf(() -> x.bits(at, 0))).append(' ').append(answerOf(() -> x.bits(at, 1)));
        }
        for (int k = 0; k < x.count(3); k++) {
            for (int what = -1; what <= 6; what++) {
                all.append(' ').append(x.node(k, what));
            }
        }
        String ring = answerOf(() -> x.ring(0));
        for (int k = 1; !ring.equals("IndexOutOfBoundsException"); k++) {
            int at = k;
            all.append(" ring ").append(ring);
            ring = answerOf(() -> x.ring(at));
        }
        for (int i = 0; i < x.count(4); i++) {
            all.append((char) x.out(i));
        }
        return all.toString();
    }

    /** An object whose text is so many bytes long, come to with few calls by way of print and again. */
    static MachineText ofLength(int bytes) {
        String head = "word 1;reg a 1;ins i 1{";
        int body = bytes - "word 1;\nreg a 1;\nins i 1 { }\n".length();
        StringBuilder text = new StringBuilder(head);
        // "a = a; " has seven bytes, a sign before the value one more.
        for (int i = 0; i < body / 7; i++) {
            text.append(i < body % 7 ? "a=~a;" : "a=a;");
        }
        MachineText x = read(text.append("}").toString());
        due("print()", x.print(), bytes);
        due("again()", x.again(), bytes);
        return x;
    }

    static void feed(MachineText x, String text) {
        byte[] bytes = text.getBytes(StandardCharsets.ISO_8859_1);
        for (int i = 0; i < bytes.length; i += 16) {
            x.feed(four(bytes, i), four(bytes, i + 4), four(bytes, i + 8), four(bytes, i + 12));
            if (bytes.length - i < 16) {
                x.end(bytes.length - i);
            }
        }
    }

    private static int four(byte[] bytes, int from) {
        int all = 0;
        for (int i = from; i < from + 4; i++) {
            all = all << 8 | (i < bytes.length ? bytes[i] & 255 : 0);
        }
        return all;
    }

    /** A new object that has read the text, be it faulty or not. */
    static MachineText read(String text) {
        MachineText x = new MachineText();
        feed(x, text);
        readAgain(x);
        return x;
    }

    static void readAgain(MachineText x) {
        String answer = answerOf(() -> x.read());
        boolean sound = x.fault(0) == 0;
        due("read() beside fault(0) " + x.fault(0), answer,
            sound ? String.valueOf(x.count(2)) : "IllegalArgumentException");
        due("count(0) behind read()", x.count(0), 0);
    }

    /** The fault's number and place, or "none". */
    static String faultOf(MachineText x) {
        return x.fault(0) == 0 ? "none" : x.fault(0) + "@" + x.fault(1);
    }

    static void dueFault(String text, String want) {
        due("the fault of " + text, faultOf(read(text)), want);
    }

    static void dueSound(String text) {
        dueFault(text, "none");
    }

    /** The text has a mark $ before the lexeme at whose place the fault is due; it is left out. */
    static void dueFaultAt(int number, String marked) {
        int place = marked.indexOf('$');
        String text = marked.substring(0, place) + marked.substring(place + 1);
        dueFault(text, number + "@" + place);
    }

    static String printed(MachineText x) {
        int bytes = x.print();
        StringBuilder all = new StringBuilder();
        for (int i = 0; i < bytes; i++) {
            all.append((char) x.out(i));
        }
        return all.toString();
    }

    static void duePrinted(String text, String want) {
        MachineText x = read(text);
        due("the fault of " + text, faultOf(x), "none");
        if (x.fault(0) == 0) {
            due("what is printed of " + text, printed(x), want);
        }
    }
}
