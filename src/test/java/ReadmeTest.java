import java.io.IOException;
import java.lang.reflect.Method;
import java.nio.file.Files;
import java.nio.file.Path;
import java.util.Set;
import java.util.TreeSet;
import java.util.regex.Matcher;
import java.util.regex.Pattern;

/** The example of README.md: each call gives the answer that stands behind it, and no call is left out. */
public final class ReadmeTest {
    private static final Pattern EXAMPLE = Pattern.compile("```java\n(.*?)```", Pattern.DOTALL);
    private static final Pattern CALL = Pattern.compile("x\\.(\\w+)\\((.*?)\\); +// (JumpOrder\\.NONE|-?\\d+)\\b.*");

    private static final Checks checks = new Checks();

    public static void main(String[] args) throws IOException, ReflectiveOperationException {
        String readme = Files.readString(Path.of("README.md"));
        Matcher example = EXAMPLE.matcher(readme);
        checks.due("README.md has an example", example.find(), true);
        runLines(example.group(1).split("\n"));
        checks.due("README.md says how to run the tests", readme.contains("\n.ci/run\n"), true);
        checks.due("README.md says how many calls an object is for", readme.contains("512 calls"), true);
        checks.end();
    }

    private static void runLines(String[] lines) throws ReflectiveOperationException {
        JumpOrder x = new JumpOrder();
        Set<String> shown = new TreeSet<>();
        checks.due("the first line", lines[0].startsWith("JumpOrder x = new JumpOrder(); "), true);
        for (int i = 1; i < lines.length; i++) {
            Matcher call = CALL.matcher(lines[i]);
            if (call.matches()) {
                shown.add(call.group(1));
                long due = call.group(3).equals("JumpOrder.NONE") ? JumpOrder.NONE : Long.parseLong(call.group(3));
                checks.due(lines[i], answer(x, call.group(1), call.group(2).split(", ")), due);
            } else {
                checks.due("a line of the example", lines[i], "a call and its answer");
            }
        }
        for (Method method : JumpOrder.class.getMethods()) {
            if (method.getDeclaringClass() == JumpOrder.class) {
                checks.due("the example shows " + method.getName(), shown.contains(method.getName()), true);
            }
        }
    }

    private static long answer(JumpOrder x, String name, String[] texts) throws ReflectiveOperationException {
        for (Method method : JumpOrder.class.getMethods()) {
            if (method.getName().equals(name) && method.getParameterCount() == texts.length) {
                Object[] arguments = new Object[texts.length];
                for (int i = 0; i < texts.length; i++) {
                    arguments[i] = argument(method.getParameterTypes()[i], texts[i]);
                }
                return ((Number) method.invoke(x, arguments)).longValue();
            }
        }
        throw new NoSuchMethodException(name);
    }

    private static Object argument(Class<?> type, String text) {
        if (type == int.class) {
            return Integer.valueOf(text);
        }
        return type == long.class ? (Object) Long.valueOf(text) : Boolean.valueOf(text);
    }
}
