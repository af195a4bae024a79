import java.io.IOException;
import java.lang.reflect.InvocationTargetException;
import java.lang.reflect.Method;
import java.nio.file.Files;
import java.nio.file.Path;
import java.util.HashMap;
import java.util.Map;
import java.util.regex.Matcher;
import java.util.regex.Pattern;

/** README.md: its examples answer as it says there, and each call of the document's face is told as it is there. */
public final class ReadmeTest {
    private static final Pattern MADE = Pattern.compile("SlowerForTheLate (\\w+) = new SlowerForTheLate\\(\\);");
    private static final Pattern WRITTEN = Pattern.compile("String text = \"([^\"]*)\";");
    private static final Pattern PUT = Pattern.compile("\\s+(\\w+)\\.put\\(0, i, text\\.charAt\\(i\\)\\);");
    private static final Pattern CALL = Pattern.compile("(\\w+)\\.(\\w+)\\(([^)]*?(?:\\(\\))?)\\);\\s*// (-?\\d+)\\b.*");
    private static final Pattern PASSED_OVER = Pattern.compile("for \\(int i = 0; i < text\\.length\\(\\); i\\+\\+\\) \\{|\\}|\\s*");
    private static final Pattern OF_THE_FACE = Pattern.compile("public (?:int|long) (\\w+)\\(([^)]*)\\)");

    private final Map<String, SlowerForTheLate> objects = new HashMap<>();
    private String text = "";
    private int calls = 0;

    public static void main(String[] args) throws IOException {
        String readme = Files.readString(Path.of("README.md"));
        ReadmeTest test = new ReadmeTest();
        boolean within = false;
        for (String line : readme.split("\n")) {
            if (line.startsWith("```")) {
                within = line.equals("```java");
            } else if (within) {
                test.goThrough(line);
            }
        }
        Check.due("calls in examples", test.calls, 18);
        allCallsAreTold(readme, Files.readString(Path.of("../shared/DOC.md")));
        Check.end();
    }

    private void goThrough(String line) {
        Matcher made = MADE.matcher(line);
        Matcher written = WRITTEN.matcher(line);
        Matcher put = PUT.matcher(line);
        Matcher call = CALL.matcher(line);
        if (made.matches()) {
            objects.put(made.group(1), new SlowerForTheLate());
        } else if (written.matches()) {
            text = written.group(1);
        } else if (put.matches()) {
            for (int i = 0; i < text.length(); i++) {
                Check.due(line, objects.get(put.group(1)).put(0, i, text.charAt(i)), 0);
            }
        } else if (call.matches()) {
            calls++;
            String arguments = call.group(3).replace("text.length()", String.valueOf(text.length()));
            Check.due(line, answer(objects.get(call.group(1)), call.group(2), arguments), Long.parseLong(call.group(4)));
        } else {
            Check.due("not as an example must be: " + line, PASSED_OVER.matcher(line).matches() ? 1 : 0, 1);
        }
    }

    private static long answer(SlowerForTheLate x, String name, String told) {
        String[] texts = told.isEmpty() ? new String[0] : told.split(", ");
        Class<?>[] types = new Class<?>[texts.length];
        Object[] arguments = new Object[texts.length];
        for (int i = 0; i < texts.length; i++) {
            types[i] = int.class;
            arguments[i] = Integer.valueOf(texts[i]);
        }
        try {
            Method method = SlowerForTheLate.class.getMethod(name, types);
            return ((Number) method.invoke(x, arguments)).longValue();
        } catch (NoSuchMethodException | IllegalAccessException | InvocationTargetException e) {
            throw new IllegalStateException(name + " can't be called so", e);
        }
    }

    private static void allCallsAreTold(String readme, String document) {
        Matcher face = OF_THE_FACE.matcher(document);
        int found = 0;
        while (face.find()) {
            found++;
            String call = face.group(1) + "(" + face.group(2).replace("int ", "") + ")";
            Check.due("README.md tells of " + call, readme.contains("`" + call + "`") ? 1 : 0, 1);
        }
        Check.due("calls of the face", found, 50);
    }
}
