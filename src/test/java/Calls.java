import java.lang.reflect.Method;
import java.util.Arrays;

/** Calls by their name, on the class and on the naive judge alike. */
final class Calls {
    private Calls() {
    }

    static int parameters(String name) {
        return methodOf(ShelfJudge.class, name).getParameterCount();
    }

    static int answer(Object judge, String name, Object... arguments) {
        try {
            return (Integer) methodOf(judge.getClass(), name).invoke(judge, arguments);
        } catch (ReflectiveOperationException e) {
            throw new IllegalStateException(name + Arrays.toString(arguments), e);
        }
    }

    private static Method methodOf(Class<?> c, String name) {
        for (Method m : c.getDeclaredMethods()) {
            if (m.getName().equals(name)) {
                return m;
            }
        }
        throw new IllegalArgumentException(name);
    }
}
