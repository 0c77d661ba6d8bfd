import java.io.IOException;
import java.lang.reflect.Method;
import java.nio.file.Files;
import java.nio.file.Path;
import java.util.regex.Matcher;
import java.util.regex.Pattern;

/** What README.md shows: the calls of its example answer what stands behind them, and its table has all constants. */
public final class ReadmeTest {
    private static final Pattern CALL = Pattern.compile("x\\.(\\w+)\\(([^)]*)\\); // (-?[0-9.]+)\\b.*");
    private static final Pattern CONSTANT = Pattern.compile("\\| `([A-Z_]+)` \\| (-[0-9]+) \\|.*");
    private static final int CONSTANTS = 7;

    private ReadmeTest() {
    }

    public static void main(String[] args) throws IOException, ReflectiveOperationException {
        HypergraphDualizer x = new HypergraphDualizer();
        int calls = 0;
        int constants = 0;
        for (String line : Files.readAllLines(Path.of("README.md"))) {
            Matcher call = CALL.matcher(line);
            if (call.matches()) {
                calls++;
                Check.dueText(line, answer(x, call.group(1), call.group(2)), call.group(3));
            }
            Matcher constant = CONSTANT.matcher(line);
            if (constant.matches()) {
                constants++;
                int value = HypergraphDualizer.class.getField(constant.group(1)).getInt(null);
                Check.due(constant.group(1), value, Integer.parseInt(constant.group(2)));
            }
        }
        Check.due("calls in README.md, at least one", Math.min(calls, 1), 1);
        Check.due("constants in README.md", constants, CONSTANTS);
        Check.end();
    }

    private static String answer(HypergraphDualizer x, String name, String arguments)
            throws ReflectiveOperationException {
        String[] written = arguments.isEmpty() ? new String[0] : arguments.split(", ");
        Class<?>[] types = new Class<?>[written.length];
        Object[] values = new Object[written.length];
        for (int i = 0; i < written.length; i++) {
            boolean isSign = written[i].startsWith("'");
            types[i] = isSign ? char.class : int.class;
            values[i] = isSign ? (Object) written[i].charAt(1) : (Object) number(written[i]);
        }
        Method method = HypergraphDualizer.class.getMethod(name, types);
        return method.invoke(x, values).toString();
    }

    private static Integer number(String written) {
        return written.startsWith("0b") ? Integer.valueOf(written.substring(2), 2) : Integer.valueOf(written);
    }
}
