import java.io.IOException;
import java.lang.reflect.InvocationTargetException;
import java.lang.reflect.Method;
import java.lang.reflect.Modifier;
import java.nio.file.Files;
import java.nio.file.Path;
import java.util.HashSet;
import java.util.Set;
import java.util.regex.Matcher;
import java.util.regex.Pattern;

/** README.md: the calls of its example are made as they stand there, and must answer what stands behind them. */
public final class ReadmeTest {
    private static final Path README = Path.of("README.md");
    private static final Pattern CALL = Pattern.compile("lab\\.(\\w+)\\(([^)]*)\\); *// (-?\\d+): .*");
    private static final Pattern CODE = Pattern.compile("\\| `([A-Z_]+)` (-\\d+) \\|.*");
    private static final Pattern ROW = Pattern.compile("\\| `(\\w+)\\(([^)]*)\\)` \\|.*");

    private static final Check check = new Check();
    private static final LoaderLab lab = new LoaderLab();

    public static void main(String[] args) throws IOException, ReflectiveOperationException {
        int calls = 0;
        int codes = 0;
        Set<String> rows = new HashSet<>();
        check.about("README.md");
        for (String line : Files.readAllLines(README)) {
            Matcher call = CALL.matcher(line);
            Matcher code = CODE.matcher(line);
            Matcher row = ROW.matcher(line);
            if (call.matches()) {
                calls++;
                check.due(line, answer(call.group(1), numbers(call.group(2))), Integer.parseInt(call.group(3)));
            } else if (code.matches()) {
                codes++;
                int value = LoaderLab.class.getField(code.group(1)).getInt(null);
                check.due(line, value, Integer.parseInt(code.group(2)));
            } else if (row.matches()) {
                rows.add(row.group(1));
                check.due(line, method(row.group(1)).getParameterCount(), numbers(row.group(2)).length);
            }
        }
        check.due("calls of the example", calls, 12);
        check.due("codes told", codes, LoaderLab.class.getFields().length);
        for (Method each : LoaderLab.class.getDeclaredMethods()) {
            boolean isPublic = Modifier.isPublic(each.getModifiers());
            check.due("tells of " + each.getName(), rows.contains(each.getName()), isPublic);
        }
        check.end();
    }

    private static String[] numbers(String written) {
        return written.isEmpty() ? new String[0] : written.split(", ");
    }

    private static Method method(String name) throws NoSuchMethodException {
        for (Method each : LoaderLab.class.getMethods()) {
            if (each.getName().equals(name)) {
                return each;
            }
        }
        throw new NoSuchMethodException(name);
    }

    private static int answer(String name, String[] written) throws IllegalAccessException, NoSuchMethodException,
            InvocationTargetException {
        Object[] numbers = new Object[written.length];
        for (int k = 0; k < written.length; k++) {
            numbers[k] = sum(written[k]);
        }
        return (Integer) method(name).invoke(lab, numbers);
    }

    private static int sum(String written) {
        int sum = 0;
        for (String part : written.split(" \\+ ")) {
            int product = 1;
            for (String factor : part.split(" \\* ")) {
                product *= Integer.parseInt(factor);
            }
            sum += product;
        }
        return sum;
    }
}
