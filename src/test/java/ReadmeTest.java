import java.io.IOException;
import java.lang.reflect.InvocationTargetException;
import java.lang.reflect.Method;
import java.nio.file.Files;
import java.nio.file.Path;
import java.util.regex.Matcher;
import java.util.regex.Pattern;

/** The example in README.md: each call answers what stands behind it; .ci/run starts it where the project is. */
public final class ReadmeTest {
    private static final Pattern CALL = Pattern.compile("^eyes\\.(\\w+)\\(([^)]*)\\); +// (-?[0-9]+|throws \\w+)(:|$)");

    public static void main(String[] args) throws IOException, ReflectiveOperationException {
        Checks checks = new Checks("ReadmeTest");
        LaneEyes eyes = new LaneEyes();
        int calls = 0;
        for (String line : Files.readAllLines(Path.of("README.md"))) {
            Matcher call = CALL.matcher(line);
            if (call.find()) {
                calls++;
                String got = answer(eyes, call.group(1), call.group(2));
                checks.due(line + " answered " + got, true, got.equals(call.group(3)));
            } else {
                checks.due("can be run: " + line, false, line.startsWith("eyes."));
            }
        }
        checks.due("there is an example", true, calls > 0);
        checks.end();
    }

    private static String answer(LaneEyes eyes, String name, String numbers) throws ReflectiveOperationException {
        String[] given = numbers.isEmpty() ? new String[0] : numbers.split(", *");
        Object[] arguments = new Object[given.length];
        Class<?>[] types = new Class<?>[given.length];
        for (int i = 0; i < given.length; i++) {
            arguments[i] = Long.decode(given[i]).intValue();
            types[i] = int.class;
        }
        Method method = LaneEyes.class.getMethod(name, types);
        try {
            return String.valueOf(method.invoke(eyes, arguments));
        } catch (InvocationTargetException thrown) {
            return "throws " + thrown.getCause().getClass().getSimpleName();
        }
    }
}
