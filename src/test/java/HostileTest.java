import java.lang.reflect.InvocationTargetException;
import java.lang.reflect.Method;
import java.lang.reflect.Modifier;
import java.util.Arrays;
import java.util.Comparator;
import java.util.List;
import java.util.stream.Stream;

/**
 * "No call may ever throw by itself, for any arguments in any state" (LANGUAGE.md, rule 7), and "the same calls always
 * give the same answers" (rule 13): every method with every mixture of edges and wrong numbers, on a new panel and on a
 * busy one, far beyond the 512 calls behind which answers are free.
 */
public final class HostileTest {
    private static final int[] HOSTILE = {
        Integer.MIN_VALUE, -1000000001, -1, 0, 5, 6, 7, 8, 15, 16, 23, 24, 1000000001, TripPanel.GAP, Integer.MAX_VALUE};
    private static final int WRONG_ENOUGH = 20;
    private static final Due due = new Due("HostileTest");

    public static void main(String[] args) throws IllegalAccessException {
        List<Method> face = Stream.of(TripPanel.class.getDeclaredMethods())
            .filter(method -> Modifier.isPublic(method.getModifiers()))
            .sorted(Comparator.comparing(Method::getName))
            .toList();
        due.is(26, face.size(), "methods of the face");
        for (Method method : face) {
            due.sentence("Rules 7, 13: " + method.getName());
            everyMixture(method, new TripPanel(), new TripPanel());
            everyMixture(method, Twins.busy(), Twins.busy());
        }
        due.sentence("Rules 7, 13: all methods in turn");
        TripPanel panel = new TripPanel();
        TripPanel twin = new TripPanel();
        for (Method method : face) {
            everyMixture(method, panel, twin);
        }
        for (int i = face.size() - 1; i >= 0; i--) {
            everyMixture(face.get(i), panel, twin);
        }
        due.end();
    }

    private static void everyMixture(Method method, TripPanel panel, TripPanel twin) throws IllegalAccessException {
        Class<?>[] types = method.getParameterTypes();
        int mixtures = 1;
        for (Class<?> type : types) {
            mixtures *= choices(type);
        }
        for (int mixture = 0; mixture < mixtures && due.wrongSoFar() < WRONG_ENOUGH; mixture++) {
            Object[] arguments = arguments(types, mixture);
            String what = method.getName() + Arrays.toString(arguments);
            due.holds(answer(method, panel, arguments, what).equals(answer(method, twin, arguments, what)), what + " answers alike");
        }
    }

    private static int choices(Class<?> type) {
        return type == boolean.class ? 2 : HOSTILE.length;
    }

    private static Object[] arguments(Class<?>[] types, int mixture) {
        Object[] arguments = new Object[types.length];
        int rest = mixture;
        for (int i = 0; i < types.length; i++) {
            int choice = rest % choices(types[i]);
            rest /= choices(types[i]);
            arguments[i] = types[i] == boolean.class ? (Object) (choice == 1) : (Object) HOSTILE[choice];
        }
        return arguments;
    }

    private static Object answer(Method method, TripPanel panel, Object[] arguments, String what) throws IllegalAccessException {
        try {
            return method.invoke(panel, arguments);
        } catch (InvocationTargetException thrown) {
            due.holds(false, what + " threw " + thrown.getCause());
            return "thrown";
        }
    }
}
