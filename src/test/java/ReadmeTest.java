import java.io.IOException;
import java.lang.reflect.InvocationTargetException;
import java.lang.reflect.Method;
import java.nio.file.Files;
import java.nio.file.Path;
import java.util.List;
import java.util.regex.Matcher;
import java.util.regex.Pattern;

/** The calls that README.md shows answer what it says; a line there that can't be read is a fault too. */
public final class ReadmeTest {
    private static final String MAKING = "SquareTiler x = new SquareTiler();";
    private static final Pattern CALL = Pattern.compile("x\\.(\\w+)\\(([^)]*)\\);\\s*// (-?\\d+)(:.*)?");

    public static void main(String[] args) throws IOException, ReflectiveOperationException {
        SquareTiler x = null;
        boolean isCode = false;
        int calls = 0;
        for (String line : linesOfReadme()) {
            if (line.startsWith("```")) {
                isCode = line.equals("```java");
            } else if (isCode && line.equals(MAKING)) {
                x = new SquareTiler();
            } else if (isCode) {
                ask(x, line);
                calls++;
            }
        }
        Due.due("README.md shows calls", calls > 0 ? 1 : 0, 1);
        Due.finish("ReadmeTest");
    }

    private static List<String> linesOfReadme() throws IOException {
        return Files.readAllLines(Path.of("README.md"));
    }

    private static void ask(SquareTiler x, String line) throws IllegalAccessException, InvocationTargetException {
        Matcher call = CALL.matcher(line);
        if (x == null || !call.matches()) {
            Due.due("a line of README.md that is no call with its answer: " + line, 0, 1);
            return;
        }
        Due.due(line, answer(x, call.group(1), call.group(2)), Long.parseLong(call.group(3)));
    }

    private static long answer(SquareTiler x, String name, String arguments)
            throws IllegalAccessException, InvocationTargetException {
        String[] given = arguments.isEmpty() ? new String[0] : arguments.split(", ");
        for (Method method : SquareTiler.class.getMethods()) {
            if (method.getName().equals(name) && method.getParameterCount() == given.length) {
                return ((Number) method.invoke(x, read(method, given))).longValue();
            }
        }
        throw new IllegalArgumentException("README.md shows a call that there is not: " + name);
    }

    private static Object[] read(Method method, String[] given) {
        Object[] values = new Object[given.length];
        for (int i = 0; i < given.length; i++) {
            boolean isTruth = method.getParameterTypes()[i] == boolean.class;
            values[i] = isTruth ? (Object) Boolean.valueOf(given[i]) : (Object) Integer.valueOf(given[i]);
        }
        return values;
    }
}
