import java.io.IOException;
import java.lang.reflect.Method;
import java.nio.file.Files;
import java.nio.file.Path;
import java.util.regex.Matcher;
import java.util.regex.Pattern;

/** The example in README.md answers what its comments say. */
public final class ReadmeTest {
    private static final Pattern CALL = Pattern.compile("panel\\.(\\w+)\\((.*?)\\);\\s*// (-?\\d+): .*");
    private static final Due due = new Due("ReadmeTest");

    public static void main(String[] args) throws IOException, ReflectiveOperationException {
        TripPanel panel = new TripPanel();
        int calls = 0;
        for (String line : Files.readAllLines(Path.of("README.md"))) {
            if (line.startsWith("panel.")) {
                Matcher call = CALL.matcher(line);
                due.holds(call.matches(), "a call with its answer: " + line);
                due.is(Integer.parseInt(call.group(3)), answer(panel, call.group(1), call.group(2)), line);
                calls++;
            }
        }
        due.holds(calls >= 10, "the example was found: " + calls + " calls");
        due.end();
    }

    private static int answer(TripPanel panel, String name, String list) throws ReflectiveOperationException {
        String[] words = list.isEmpty() ? new String[0] : list.split(", ");
        for (Method method : TripPanel.class.getMethods()) {
            if (method.getName().equals(name) && method.getParameterCount() == words.length) {
                return (int) method.invoke(panel, arguments(method.getParameterTypes(), words));
            }
        }
        throw new NoSuchMethodException(name);
    }

    private static Object[] arguments(Class<?>[] types, String[] words) {
        Object[] arguments = new Object[types.length];
        for (int i = 0; i < types.length; i++) {
            arguments[i] = types[i] == boolean.class ? (Object) Boolean.valueOf(words[i]) : (Object) Integer.valueOf(words[i]);
        }
        return arguments;
    }
}
