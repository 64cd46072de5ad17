import java.io.IOException;
import java.lang.reflect.Method;
import java.nio.file.Files;
import java.nio.file.Path;
import java.util.Set;
import java.util.TreeSet;
import java.util.regex.Matcher;
import java.util.regex.Pattern;

/** The calls that README.md shows, each held against the answer that it tells behind the call. */
public final class ReadmeTest {
    private static final Pattern CALL = Pattern.compile("desk\\.(\\w+)\\((.*?)\\); +// (true|false|-?\\d+): .*");

    private ReadmeTest() {
    }

    public static void main(String[] args) throws IOException, ReflectiveOperationException {
        ModelDesk desk = new ModelDesk();
        Set<String> shown = new TreeSet<>();
        for (String line : Files.readAllLines(Path.of("README.md"))) {
            if (!line.startsWith("desk.")) {
                continue;
            }
            Matcher call = CALL.matcher(line);
            Checks.due("a call with its answer: " + line, call.matches(), true);
            if (call.matches()) {
                Method method = methodNamed(call.group(1));
                Object answer = method.invoke(desk, argumentsOf(method, call.group(2)));
                Checks.due(line + " (" + answer + ")", answer.toString().equals(call.group(3)), true);
                shown.add(call.group(1));
            }
        }
        for (Method method : ModelDesk.class.getMethods()) {
            if (method.getDeclaringClass() == ModelDesk.class) {
                Checks.due("README.md shows " + method.getName(), shown.contains(method.getName()), true);
            }
        }
        Checks.end();
    }

    private static Method methodNamed(String name) {
        for (Method method : ModelDesk.class.getMethods()) {
            if (method.getName().equals(name)) {
                return method;
            }
        }
        throw new IllegalArgumentException("no method " + name);
    }

    private static Object[] argumentsOf(Method method, String written) {
        Class<?>[] types = method.getParameterTypes();
        Object[] arguments = new Object[types.length];
        String[] parts = written.split(", *");
        for (int i = 0; i < types.length; i++) {
            long value = Long.decode(parts[i].replaceAll("[_L]", ""));
            if (types[i] == int.class) {
                arguments[i] = (int) value;
            } else {
                arguments[i] = value;
            }
        }
        return arguments;
    }
}
