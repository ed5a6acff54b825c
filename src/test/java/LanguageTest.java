import java.io.IOException;
import java.lang.reflect.Field;
import java.lang.reflect.Method;
import java.lang.reflect.Modifier;
import java.nio.file.Files;
import java.nio.file.Path;
import java.util.ArrayList;
import java.util.HashSet;
import java.util.List;
import java.util.Set;
import java.util.regex.Pattern;

/** The rules of LANGUAGE.md that can be seen in the source, or in the compiled class. */
public final class LanguageTest {
    private static final Path SOURCE = Path.of("src/main/java/LoaderLab.java");

    // The program needs none of these, some of which the rules would allow: so whoever brings one reads the rules.
    private static final String[] ABSENT = {
        "\\bimport\\b", "\\bpackage\\b", "\\bthrow\\b", "\\bthrows\\b", "\\btry\\b", "\\bcatch\\b", "\\bfinally\\b",
        "\\bsynchronized\\b", "\\bassert\\b", "\\bwhile\\b", "\\bdo\\b", "\\binstanceof\\b", "\\bvar\\b", "->", "::",
        "\\bString\\b", "\\bSystem\\b", "\\bMath\\b", "\\bArrays\\b", "\\bfloat\\b", "\\bdouble\\b", "\\[\\]\\[\\]",
        "@", "(?m)^ +static *\\{", "\\bprotected\\b", "[/%] \\(?[a-z]",
    };
    // Rows are made once, in a field or by the constructor of the lab: no call makes an object.
    private static final Pattern MADE_ONCE = Pattern.compile(
        " +private final (int|boolean)\\[\\] \\w+ = new \\1\\[\\w+( \\+ 1)?\\];| +(loaders|classes) = new \\w+\\(\\);");
    private static final Pattern METHOD = Pattern.compile(" +[\\w\\[\\] ]*\\b\\w+\\([\\w, \\[\\]]*\\) \\{");

    private static final Check check = new Check();

    public static void main(String[] args) throws IOException {
        List<String> lines = Files.readAllLines(SOURCE);
        List<String> code = new ArrayList<>();
        for (String line : lines) {
            code.add(line.replaceAll("//.*|/\\*\\*.*\\*/", ""));
        }
        absent(String.join("\n", code));
        madeOnce(code);
        shortMethods(code);
        names();
        classes();
        check.end();
    }

    private static void absent(String code) {
        check.about("rules 1 to 7, not in the source");
        for (String each : ABSENT) {
            check.due(each, Pattern.compile(each).matcher(code).find(), false);
        }
    }

    private static void madeOnce(List<String> code) {
        check.about("rule 12");
        int made = 0;
        for (String line : code) {
            if (line.matches(".*\\bnew\\b.*")) {
                made++;
                check.due(line, MADE_ONCE.matcher(line).matches(), true);
            }
        }
        check.due("some are made", made > 2, true);
    }

    /** Every method's closing brace stands where its first line begins. */
    private static void shortMethods(List<String> code) {
        check.about("rule 11, some sixty lines");
        int methods = 0;
        for (int first = 0; first < code.size(); first++) {
            if (METHOD.matcher(code.get(first)).matches() && !code.get(first).matches(" +(for|if|switch|\\}).*")) {
                methods++;
                String end = code.get(first).replaceAll("\\S.*", "}");
                int last = first;
                while (!code.get(last).equals(end)) {
                    last++;
                }
                check.due(code.get(first), last - first < 60, true);
            }
        }
        check.due("methods are found", methods > 50, true);
    }

    private static void names() {
        check.about("rule 1, no private method bears the name of a public one");
        Set<String> face = new HashSet<>();
        for (Method each : LoaderLab.class.getMethods()) {
            face.add(each.getName());
        }
        for (Method each : LoaderLab.class.getDeclaredMethods()) {
            boolean isPrivate = Modifier.isPrivate(each.getModifiers());
            check.due(each.getName(), face.contains(each.getName()), !isPrivate);
        }
    }

    private static void classes() {
        List<Class<?>> all = new ArrayList<>(List.of(LoaderLab.class.getDeclaredClasses()));
        check.about("rule 11, some twelve classes");
        check.due("classes", all.size() < 12, true);
        check.about("rule 1, classes inside");
        for (Class<?> each : all) {
            int modifiers = each.getModifiers();
            check.due(each + " is static", Modifier.isStatic(modifiers), true);
            check.due(each + " is seen outside", Modifier.isPublic(modifiers) || Modifier.isProtected(modifiers), false);
        }
        all.add(LoaderLab.class);
        for (Class<?> each : all) {
            fields(each);
            check.about("rule 11, at most seven parameters");
            for (Method method : each.getDeclaredMethods()) {
                check.due(each + " " + method.getName(), method.getParameterCount() <= 7, true);
            }
        }
    }

    private static void fields(Class<?> of) {
        check.about("rules 5 and 11, fields");
        int own = 0;
        for (Field each : of.getDeclaredFields()) {
            boolean isStatic = Modifier.isStatic(each.getModifiers());
            boolean constant = Modifier.isFinal(each.getModifiers()) && each.getType() == int.class;
            check.due(each + " is a constant", !isStatic || constant, true);
            own += isStatic ? 0 : 1;
        }
        check.due(of + " has some twenty fields", own <= 20, true);
    }
}
