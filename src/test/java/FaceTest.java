import java.lang.reflect.Constructor;
import java.lang.reflect.Field;
import java.lang.reflect.Method;
import java.lang.reflect.Modifier;
import java.util.Arrays;
import java.util.Set;
import java.util.TreeSet;

/** The public face, as the document tells it, and rule 1 of LANGUAGE.md. */
public final class FaceTest {
    private static final String[] FACE = {
        "int day(int)", "int traveller(int, int)", "int takes(int, int)", "int refund(int, int)",
        "int comes(int, int, int, int)", "int leaves(int)", "int base(int, int)", "int train(int, int)",
        "int about(int, int)", "int cancels(int)", "int run(int, int)", "int set(int, int)", "int fate(int, int)",
        "int when(int, int, int)", "int sums(int)", "int aboard(int, int, int)", "int fullest(int, int)",
        "int later(int, int)", "int slack(int)", "int odds(int)", "long mean(int, int)", "int two(int, int)",
        "int whose(int)", "int together(int, int)", "int cancel(int)", "int strike()", "int snow(int)", "int law(int)",
        "int bestLate()", "int worth()", "int bestGap()", "int bestStart(int)", "int need(int)", "int extra()",
        "int tickets(int, int)", "int forged(int)", "int came(int, int, int)", "int sure(int, int)",
        "int judge(int, int)", "int mornings(int, int, int)", "int image()", "int restore()", "int count(int)",
        "int keep(int, int, int, int)", "int row(int, int, int)", "int put(int, int, int)", "long element(int, int)",
        "int copy(int, int, int, int, int)", "int cost(int)", "int toss(int)"};

    public static void main(String[] args) throws NoSuchMethodException {
        Class<?> face = SlowerForTheLate.class;
        Check.due("public and final", face.getModifiers(), Modifier.PUBLIC | Modifier.FINAL);
        Constructor<?>[] constructors = face.getDeclaredConstructors();
        Check.due("constructors", constructors.length, 1);
        Check.due("its parameters", constructors[0].getParameterCount(), 0);
        Check.due("it is public", constructors[0].getModifiers(), Modifier.PUBLIC);
        Set<String> names = methods(face);
        for (Field field : face.getDeclaredFields()) {
            isPrivate("field " + field.getName(), field.getModifiers());
        }
        for (Class<?> inside : face.getDeclaredClasses()) {
            int modifiers = inside.getModifiers();
            Check.due("class inside is not public: " + inside.getName(), modifiers & (Modifier.PUBLIC | Modifier.PROTECTED), 0);
            Check.due("class inside is static: " + inside.getName(), modifiers & Modifier.STATIC, Modifier.STATIC);
            for (Method method : inside.getDeclaredMethods()) {
                Check.due("a name of the face: " + method, names.contains(method.getName()) ? 1 : 0, 0);
            }
        }
        Class<?>[] thrown = face.getMethod("element", int.class, int.class).getExceptionTypes();
        Check.due("what element throws", Arrays.asList(thrown).equals(
            Arrays.asList(IllegalArgumentException.class, IllegalStateException.class)) ? 1 : 0, 1);
        Check.end();
    }

    private static Set<String> methods(Class<?> face) {
        Set<String> wanted = new TreeSet<>(Arrays.asList(FACE));
        Set<String> names = new TreeSet<>();
        for (Method method : face.getDeclaredMethods()) {
            if (Modifier.isPublic(method.getModifiers())) {
                String signature = method.getReturnType() + " " + method.getName()
                    + Arrays.toString(method.getParameterTypes()).replace('[', '(').replace(']', ')');
                Check.due("it is of the face: " + signature, wanted.remove(signature) ? 1 : 0, 1);
                Check.due("it is no more than public: " + signature, method.getModifiers(), Modifier.PUBLIC);
                names.add(method.getName());
            }
        }
        Check.due("missing: " + wanted, wanted.size(), 0);
        for (Method method : face.getDeclaredMethods()) {
            if (!Modifier.isPublic(method.getModifiers())) {
                isPrivate("method " + method.getName(), method.getModifiers());
                Check.due("a private one of that name: " + method, names.contains(method.getName()) ? 1 : 0, 0);
            }
        }
        return names;
    }

    private static void isPrivate(String what, int modifiers) {
        Check.due(what + " is private", modifiers & Modifier.PRIVATE, Modifier.PRIVATE);
    }
}
