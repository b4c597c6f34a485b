import java.io.IOException;
import java.lang.reflect.Method;
import java.nio.file.Files;
import java.nio.file.Path;
import java.util.regex.Matcher;
import java.util.regex.Pattern;

/** The example of README.md: each call answers the number that stands beside it. */
public final class ReadmeTest {
    private static final Pattern CALL = Pattern.compile("x\\.(\\w+)\\(([^)]*)\\);\\s+// (-?\\d+)\\b.*");
    private static int wrong = 0;
    private static int asked = 0;

    public static void main(String[] args) throws IOException, ReflectiveOperationException {
        MissingHoles x = new MissingHoles();
        for (String line : Files.readAllLines(Path.of("README.md"))) {
            if (line.startsWith("x.")) {
                ask(x, line);
            }
        }
        System.out.println(asked + " calls of README.md, " + wrong + " not as it says");
        if (wrong != 0 || asked == 0) {
            System.exit(1);
        }
    }

    private static void ask(MissingHoles x, String line) throws ReflectiveOperationException {
        Matcher m = CALL.matcher(line);
        asked++;
        long got = 0;
        if (m.matches()) {
            got = answer(x, m.group(1), m.group(2).isBlank() ? new String[0] : m.group(2).split(", "));
        }
        if (!m.matches() || got != Long.parseLong(m.group(3))) {
            wrong++;
            System.out.println(line + " answered " + got);
        }
    }

    private static long answer(MissingHoles x, String name, String[] given) throws ReflectiveOperationException {
        for (Method method : MissingHoles.class.getMethods()) {
            Class<?>[] types = method.getParameterTypes();
            if (method.getName().equals(name) && types.length == given.length) {
                Object[] values = new Object[given.length];
                for (int i = 0; i < given.length; i++) {
                    long v = Long.decode(given[i].replace("L", ""));
                    values[i] = types[i] == long.class ? (Object) v : (Object) (int) v;
                }
                return ((Number) method.invoke(x, values)).longValue();
            }
        }
        throw new NoSuchMethodException(name);
    }
}
