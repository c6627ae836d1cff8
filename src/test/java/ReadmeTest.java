import java.io.IOException;
import java.lang.reflect.InvocationTargetException;
import java.lang.reflect.Method;
import java.nio.file.Files;
import java.nio.file.Path;
import java.util.Arrays;
import java.util.regex.Matcher;
import java.util.regex.Pattern;

/** Makes the calls of README.md's examples, which are one run, and looks at the answers told there. */
public final class ReadmeTest {
    private static final Pattern CALL =
            Pattern.compile("desk\\.(\\w+)\\((.*)\\); +// (true|false|-?\\d+|\\w+Exception)(:.*)?");

    public static void main(String[] args) throws IOException, ReflectiveOperationException {
        LightingDesk desk = new LightingDesk();
        boolean inside = false;
        for (String line : Files.readAllLines(Path.of("README.md"))) {
            if (line.startsWith("```")) {
                inside = line.equals("```java");
            } else if (inside && !line.equals("LightingDesk desk = new LightingDesk();")) {
                Check.says(line);
                compare(desk, line);
            }
        }
        Check.end();
    }

    private static void compare(LightingDesk desk, String line) throws ReflectiveOperationException {
        Matcher parts = CALL.matcher(line);
        if (!parts.matches()) {
            Check.same("a call with its answer", "another line");
            return;
        }
        Check.same(parts.group(3), answer(desk, method(parts.group(1)), parts.group(2).split(", ")));
    }

    private static Method method(String name) {
        return Arrays.stream(LightingDesk.class.getMethods())
                .filter(m -> m.getName().equals(name)).findFirst().orElseThrow();
    }

    private static String answer(LightingDesk desk, Method method, String[] texts)
            throws IllegalAccessException {
        Object[] values = new Object[texts.length];
        for (int i = 0; i < texts.length; i++) {
            values[i] = value(texts[i]);
        }
        try {
            return method.invoke(desk, values).toString();
        } catch (InvocationTargetException e) {
            return e.getCause().getClass().getSimpleName();
        }
    }

    private static Object value(String text) {
        switch (text) {
            case "true": return true;
            case "false": return false;
            case "LightingDesk.NONE": return LightingDesk.NONE;
            default: return Integer.valueOf(text);
        }
    }
}
