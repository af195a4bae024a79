import java.io.IOException;
import java.lang.reflect.Field;
import java.lang.reflect.Modifier;
import java.nio.file.Files;
import java.nio.file.Path;
import java.util.regex.Matcher;
import java.util.regex.Pattern;

/** What of LANGUAGE.md can be seen in the text of the program. */
public final class LanguageTest {
    private static final String[] FORBIDDEN = {
        "\\bimport\\b", "\\bpackage\\b", "->", "::", "@", "\\bsynchronized\\b", "\\bassert\\b", "\\bfinally\\b", "\\bvolatile\\b",
        "\\bnative\\b", "\\bvar\\b", "\\bthrow\\s+(?!new\\b)", "Exact\\b", "getMessage", "\\bSystem\\.(?!arraycopy)", "\\bThread\\b",
        "\\bObject\\b", "\\b(Byte|Short|Character|Boolean|Double|Float|Objects|Collections|Stream)\\b",
        "\\bMath\\.(?!max|min|abs|floor(Div|Mod)|multiply)",
        "\\b(Integer|Long)\\.(?!bitCount|compare|max|min|sum|signum|abs|numberOf|highestOne|lowestOne|rotate|reverse)",
        "catch\\s*\\(\\s*(RuntimeException|Exception|Throwable|Error|ArrayIndex|Index|NullPointer|Arithmetic|ClassCast"
            + "|NegativeArray|ArrayStore)", "\\b(hashCode|equals|toString)\\b", "static \\{",
        "\\bstatic (?!final|class|int|boolean|Walker)[a-z]+ "};

    public static void main(String[] args) throws IOException {
        String text = Files.readString(Path.of("src/main/java/SlowerForTheLate.java"));
        String bare = text.replaceAll("(?s)/\\*.*?\\*/", "").replaceAll("//[^\n]*", "").replaceAll("\"[^\"\n]*\"", "\"\"");
        for (String forbidden : FORBIDDEN) {
            Matcher found = Pattern.compile(forbidden).matcher(bare);
            Check.due("forbidden: " + forbidden, found.find() ? 1 : 0, 0);
        }
        for (int i = 0; i < text.length(); i++) {
            if (text.charAt(i) > 127) {
                Check.due("a sign beyond 127 at " + i, text.charAt(i), 0);
            }
        }
        Check.due("at most twelve classes", Math.max(12, times("\\bclass [A-Z]", bare)), 12);
        Check.due("at most 20 fields a class", Math.max(20, mostFields()), 20);
        Check.due("at most 60 lines a method", Math.max(60, longestMethod(bare)), 60);
        Check.due("at most 7 parameters", times("\\((\\s*[\\w\\[\\]]+ \\w+,){7}", bare), 0);
        Check.end();
    }

    private static int times(String pattern, String text) {
        Matcher found = Pattern.compile(pattern).matcher(text);
        int n = 0;
        while (found.find()) {
            n++;
        }
        return n;
    }

    private static int mostFields() {
        int most = fields(SlowerForTheLate.class);
        for (Class<?> inside : SlowerForTheLate.class.getDeclaredClasses()) {
            most = Math.max(most, fields(inside));
        }
        return most;
    }

    private static int fields(Class<?> of) {
        int n = 0;
        for (Field field : of.getDeclaredFields()) {
            n += Modifier.isStatic(field.getModifiers()) ? 0 : 1;
            Check.due("static means final: " + field, Modifier.isStatic(field.getModifiers())
                && !Modifier.isFinal(field.getModifiers()) ? 1 : 0, 0);
        }
        return n;
    }

    /** Methods stand four or eight columns in, and end with a brace in the same column. */
    private static int longestMethod(String text) {
        int longest = 0;
        int since = -1;
        String end = "";
        String[] lines = text.split("\n");
        for (int i = 0; i < lines.length; i++) {
            if (lines[i].matches(" {4}( {4})?[\\w\\[\\] ]+\\([^;]*\\{") && !lines[i].contains(" class ")) {
                since = i;
                end = lines[i].replaceAll("\\S.*", "") + "}";
            } else if (since >= 0 && lines[i].equals(end)) {
                longest = Math.max(longest, i - since + 1);
                since = -1;
            }
        }
        return longest;
    }
}
