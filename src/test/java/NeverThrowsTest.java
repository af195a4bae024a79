import java.lang.reflect.InvocationTargetException;
import java.lang.reflect.Method;
import java.lang.reflect.Modifier;
import java.util.ArrayList;
import java.util.Comparator;
import java.util.List;

/** No call throws, for whatever arguments in whatever state, but for element, which throws what the document says. */
public final class NeverThrowsTest {
    private static final int OBJECTS = 240;
    private static final int CALLS = 300;
    private static final int[] ARGUMENTS = {
        0, 0, 0, 1, 1, 1, 2, 2, 3, 3, 4, 5, 6, 7, -1, 8, 9, 10, 30, 31, 60, 61, 100, 101, 127, 128, -128, 300, 301, 2000, 2001, 32767,
        -32768, Integer.MAX_VALUE, Integer.MIN_VALUE, Integer.MAX_VALUE - 1, Integer.MIN_VALUE + 1, 's', ';', '0'};

    private long state = 1;

    public static void main(String[] args) throws IllegalAccessException {
        NeverThrowsTest test = new NeverThrowsTest();
        for (int object = 0; object < OBJECTS; object++) {
            test.callAll(made(object % 4));
        }
        Check.end();
    }

    private static SlowerForTheLate made(int how) {
        switch (how) {
            case 0: return new SlowerForTheLate();
            case 1: return Refusals.sample();
            case 2: return Refusals.crowded();
            default: return Refusals.withText("x1;p6301020;t0000;t0001;s");
        }
    }

    private int below(int n) {
        state = state * 6364136223846793005L + 1442695040888963407L;
        return (int) ((state >>> 33) % n);
    }

    private void callAll(SlowerForTheLate x) throws IllegalAccessException {
        List<Method> face = face();
        for (int call = 0; call < CALLS; call++) {
            Method method = face.get(below(face.size()));
            Object[] arguments = new Object[method.getParameterCount()];
            StringBuilder told = new StringBuilder(method.getName());
            for (int i = 0; i < arguments.length; i++) {
                arguments[i] = ARGUMENTS[below(ARGUMENTS.length)];
                told.append(' ').append(arguments[i]);
            }
            Check.due(told + " threw", mayThrow(x, method, arguments) ? 0 : 1, 0);
        }
    }

    private static List<Method> face() {
        List<Method> face = new ArrayList<>();
        for (Method method : SlowerForTheLate.class.getDeclaredMethods()) {
            if (Modifier.isPublic(method.getModifiers())) {
                face.add(method);
            }
        }
        face.sort(Comparator.comparing(Method::getName));
        return face;
    }

    /** Whether the call threw nothing, or what element may throw. */
    private static boolean mayThrow(SlowerForTheLate x, Method method, Object[] arguments) throws IllegalAccessException {
        try {
            method.invoke(x, arguments);
            return true;
        } catch (InvocationTargetException e) {
            Class<?> thrown = e.getCause().getClass();
            return method.getName().equals("element")
                && (thrown == IllegalArgumentException.class || thrown == IllegalStateException.class);
        }
    }
}
