import java.lang.reflect.Field;
import java.lang.reflect.Method;
import java.lang.reflect.Modifier;
import java.util.Arrays;
import java.util.TreeSet;

/** The face is the document's and nothing more is open. */
public final class FaceTest {
    private static final Due due = new Due();

    public static void main(String[] args) {
        due.is("NONE", IntervalPacker.NONE, -1);
        due.is("CUT", IntervalPacker.CUT, -2);
        due.is("FORM", IntervalPacker.FORM, -3);
        due.is("SUMS", IntervalPacker.SUMS, -4);
        due.is("LONG", IntervalPacker.LONG, -5);
        due.is("DATA", IntervalPacker.DATA, -6);
        due.is("the open methods", openMethods(), "int at(int, boolean)\nint change(int, int)\n"
                + "int copy(int, int)\nint count(int)\nint cut(int, boolean)\nint feed(long, int, boolean)\n"
                + "int pack(int, int, int)\nint unpack()\nint where()\n"
                + "boolean watch(int)\nlong code()\nlong range()\nlong sum(boolean)\n");
        due.is("the open fields", openFields(), "CUT DATA FORM LONG NONE SUMS");
        due.is("constructors", IntervalPacker.class.getDeclaredConstructors().length, 1);
        due.is("final", Modifier.isFinal(IntervalPacker.class.getModifiers()), true);
        due.end();
    }

    private static String openMethods() {
        TreeSet<String> ints = new TreeSet<>();
        TreeSet<String> others = new TreeSet<>();
        for (Method m : IntervalPacker.class.getDeclaredMethods()) {
            if (Modifier.isPrivate(m.getModifiers()) || m.isSynthetic()) {
                continue;
            }
            String types = Arrays.toString(Arrays.stream(m.getParameterTypes()).map(Class::getName).toArray());
            String line = m.getReturnType().getName() + " " + m.getName()
                    + types.replace('[', '(').replace(']', ')') + "\n";
            (m.getReturnType() == int.class ? ints : others).add(line);
        }
        return String.join("", ints) + String.join("", others);
    }

    private static String openFields() {
        TreeSet<String> names = new TreeSet<>();
        for (Field f : IntervalPacker.class.getDeclaredFields()) {
            if (!Modifier.isPrivate(f.getModifiers())) {
                names.add(f.getName());
            }
        }
        return String.join(" ", names);
    }
}
