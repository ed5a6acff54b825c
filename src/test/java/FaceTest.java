import java.lang.reflect.Constructor;
import java.lang.reflect.Field;
import java.lang.reflect.Method;
import java.lang.reflect.Modifier;
import java.util.Arrays;
import java.util.TreeSet;

/** The public face: the constants, the constructor and the methods of the document, and no more. */
public final class FaceTest {
    private static final String[] METHODS = {
        "int parent(int, int)", "int file(int, int, int, int)", "int noFile(int, int)",
        "int script(int, int, int, int)", "int load(int, int)", "int refer(int, int, int)", "int resolve(int, int)",
        "int constrain(int, int, int)", "boolean agree(int, int, int)", "int cause(int)", "int requests()",
        "int recorded(int, int)", "int of(int, int)", "boolean isA(int, int)", "int count(int)",
    };
    private static final String[] CONSTANTS = {
        "REFUSED", "FULL", "NOT_FOUND", "NO_CLASS", "WRONG_NAME", "FORMAT", "CIRCULAR", "KIND", "CONSTRAINT",
        "STUCK", "DENIED",
    };

    public static void main(String[] args) throws IllegalAccessException {
        Check check = new Check();
        check.about("the class");
        check.due("modifiers", LoaderLab.class.getModifiers(), Modifier.PUBLIC | Modifier.FINAL);
        same(check, "methods", methods(), Arrays.asList(METHODS));
        same(check, "constants", constants(), Arrays.asList(CONSTANTS));
        for (int k = 0; k < CONSTANTS.length; k++) {
            check.due(CONSTANTS[k], value(CONSTANTS[k]), -1 - k);
        }
        Constructor<?>[] made = LoaderLab.class.getDeclaredConstructors();
        check.due("constructors", made.length, 1);
        check.due("constructor is public", Modifier.isPublic(made[0].getModifiers()), true);
        check.due("its parameters", made[0].getParameterCount(), 0);
        check.end();
    }

    private static void same(Check check, String what, TreeSet<String> got, Iterable<String> want) {
        TreeSet<String> due = new TreeSet<>();
        want.forEach(due::add);
        check.due(what + " " + got, got.equals(due), true);
    }

    private static TreeSet<String> methods() {
        TreeSet<String> found = new TreeSet<>();
        for (Method each : LoaderLab.class.getDeclaredMethods()) {
            if (!Modifier.isPrivate(each.getModifiers())) {
                String types = Arrays.toString(each.getParameterTypes());
                String listed = types.substring(1, types.length() - 1);
                found.add(each.getReturnType() + " " + each.getName() + "(" + listed + ")");
            }
        }
        return found;
    }

    private static TreeSet<String> constants() {
        TreeSet<String> found = new TreeSet<>();
        for (Field each : LoaderLab.class.getDeclaredFields()) {
            if (!Modifier.isPrivate(each.getModifiers())) {
                found.add(each.getName());
            }
        }
        return found;
    }

    private static int value(String constant) throws IllegalAccessException {
        for (Field each : LoaderLab.class.getDeclaredFields()) {
            if (each.getName().equals(constant)) {
                return each.getInt(null);
            }
        }
        return 0;
    }
}
