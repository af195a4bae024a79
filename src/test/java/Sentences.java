import java.lang.reflect.InvocationTargetException;
import java.lang.reflect.Method;
import java.lang.reflect.Modifier;
import java.util.ArrayList;
import java.util.Comparator;
import java.util.List;

/** Runs the tests that each hold a sentence of the document, and says which one fails. */
final class Sentences {
    private Sentences() {
    }

    static List<Method> of(Class<?> tests) {
        List<Method> found = new ArrayList<>();
        for (Method method : tests.getDeclaredMethods()) {
            if (method.isAnnotationPresent(Keeps.class)) {
                found.add(method);
            }
        }
        found.sort(Comparator.comparing(Method::getName));
        return found;
    }

    static void run(Class<?> tests) {
        for (Method test : of(tests)) {
            Keeps keeps = test.getAnnotation(Keeps.class);
            Check.within("promise " + keeps.promise() + ", " + test.getName());
            run(test);
        }
        Check.within("");
        Check.due("tests that are not run", forgotten(tests), 0);
        System.out.println(of(tests).size() + " tests of " + tests.getName());
        Check.end();
    }

    private static void run(Method test) {
        try {
            test.invoke(null);
        } catch (InvocationTargetException e) {
            Check.due("the test threw " + e.getCause(), 1, 0);
        } catch (IllegalAccessException e) {
            Check.due("the test can't be called", 1, 0);
        }
    }

    /** Tests stand without private and without parameters; one that keeps nothing would not be run. */
    private static int forgotten(Class<?> tests) {
        int n = 0;
        for (Method method : tests.getDeclaredMethods()) {
            boolean looksLikeOne = method.getName().matches("p\\d\\d_.*");
            boolean isOne = method.isAnnotationPresent(Keeps.class);
            if (looksLikeOne != isOne || isOne && !isNamedBySentence(method)) {
                System.out.println(method.getName() + " is not as a test must be");
                n++;
            }
        }
        return n;
    }

    private static boolean isNamedBySentence(Method test) {
        String promise = String.format("p%02d_", test.getAnnotation(Keeps.class).promise());
        return test.getName().startsWith(promise) && test.getParameterCount() == 0
            && !Modifier.isPrivate(test.getModifiers()) && Modifier.isStatic(test.getModifiers());
    }
}
