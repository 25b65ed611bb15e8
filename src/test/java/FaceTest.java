import java.lang.reflect.Constructor;
import java.lang.reflect.Field;
import java.lang.reflect.Method;
import java.lang.reflect.Modifier;
import java.util.Arrays;
import java.util.Set;
import java.util.TreeSet;

/** 'The public face': the class has what stands there, and nothing else that can be seen from outside. */
public final class FaceTest {
    private static final String[] FACE = {
        "public int feed(int, int, int, int) throws IllegalStateException",
        "public int end(int) throws IllegalArgumentException, IllegalStateException",
        "public int read() throws IllegalArgumentException",
        "public int fault(int) throws IndexOutOfBoundsException",
        "public int statement(int, int) throws IndexOutOfBoundsException",
        "public long bits(int, int) throws IndexOutOfBoundsException, IllegalStateException",
        "public int node(int, int) throws IndexOutOfBoundsException",
        "public int ring(int) throws IndexOutOfBoundsException",
        "public int print() throws IllegalStateException",
        "public int out(int) throws IndexOutOfBoundsException",
        "public int again() throws IllegalStateException",
        "public int count(int)"
    };

    public static void main(String[] args) {
        Harness.due("the class", Modifier.toString(MachineText.class.getModifiers()), "public final");
        methods();
        constructors();
        constants();
        Harness.finish("FaceTest");
    }

    private static String namesOf(Class<?>[] types) {
        StringBuilder all = new StringBuilder();
        for (Class<?> type : types) {
            all.append(all.length() == 0 ? "" : ", ").append(type.getSimpleName());
        }
        return all.toString();
    }

    private static String throwsOf(Class<?>[] exceptions) {
        return exceptions.length == 0 ? "" : " throws " + namesOf(exceptions);
    }

    private static void methods() {
        Set<String> seen = new TreeSet<>();
        Set<String> open = new TreeSet<>();
        Set<String> hidden = new TreeSet<>();
        for (Method m : MachineText.class.getDeclaredMethods()) {
            if (Modifier.isPrivate(m.getModifiers())) {
                hidden.add(m.getName());
                continue;
            }
            open.add(m.getName());
            seen.add(Modifier.toString(m.getModifiers()) + " " + m.getReturnType().getSimpleName() + " " + m.getName()
                + "(" + namesOf(m.getParameterTypes()) + ")" + throwsOf(m.getExceptionTypes()));
        }
        Harness.due("the methods", seen, new TreeSet<>(Arrays.asList(FACE)));
        hidden.retainAll(open);
        Harness.due("private methods with the name of a public one", hidden, "[]");
    }

    private static void constructors() {
        Constructor<?>[] all = MachineText.class.getDeclaredConstructors();
        Harness.due("how many constructors", all.length, 1);
        for (Constructor<?> one : all) {
            Harness.due("the constructor", Modifier.toString(one.getModifiers()) + "(" + namesOf(one.getParameterTypes())
                + ")" + throwsOf(one.getExceptionTypes()), "public()");
        }
    }

    private static void constants() {
        for (Field field : MachineText.class.getDeclaredFields()) {
            if (!Modifier.isPrivate(field.getModifiers())) {
                Harness.due("a field that can be seen", Modifier.toString(field.getModifiers()) + " "
                    + field.getType().getSimpleName() + " " + field.getName(), "public static final int NONE");
            }
        }
        Harness.due("NONE", MachineText.NONE, -1);
    }
}
