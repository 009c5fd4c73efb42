import java.lang.reflect.InvocationTargetException;
import java.lang.reflect.Method;
import java.lang.reflect.Modifier;
import java.util.Arrays;
import java.util.Comparator;
import java.util.List;
import java.util.function.Supplier;

/** No call throws, whatever its numbers are, in towns of nothing, of some and full of all. */
public final class NoThrowTest {
    private static final int[] EDGES = {
        Integer.MIN_VALUE, Integer.MIN_VALUE + 1, -1000000, -101, -100, -10, -9, -2, -1, 0, 1, 5, 6, 9, 10, 30, 31, 60,
        61, 99, 100, 127, 128, 999999, 1000000, Integer.MAX_VALUE - 1, Integer.MAX_VALUE};

    /** Calls by numbers that go round the edges, each at its own pace. */
    private static void callByEdges(LevelGone x, Method method, int first) throws IllegalAccessException {
        Object[] arguments = new Object[method.getParameterCount()];
        for (int start = 0; start < EDGES.length; start++) {
            for (int i = 0; i < arguments.length; i++) {
                arguments[i] = EDGES[(first + start * (1 + 2 * i)) % EDGES.length];
            }
            try {
                method.invoke(x, arguments);
            } catch (InvocationTargetException e) {
                Due.that(method.getName() + Arrays.toString(arguments) + " threw " + e.getCause(), false);
            }
        }
    }

    public static void main(String[] args) throws IllegalAccessException {
        Method[] methods = Arrays.stream(LevelGone.class.getDeclaredMethods())
                .filter(m -> Modifier.isPublic(m.getModifiers()))
                .sorted(Comparator.comparing(Method::getName)).toArray(Method[]::new);
        Supplier<LevelGone> fresh = LevelGone::new;
        for (Supplier<LevelGone> made : List.of(fresh, Towns::rich, Towns::full)) {
            for (int first = 0; first < EDGES.length; first++) {
                for (Method method : methods) {
                    callByEdges(made.get(), method, first);
                }
            }
        }
        Due.that("no call threw", true);
        Due.end();
    }
}
