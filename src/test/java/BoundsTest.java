import java.io.IOException;
import java.lang.reflect.Method;
import java.nio.file.Files;
import java.nio.file.Path;
import java.util.BitSet;
import java.util.regex.Matcher;
import java.util.regex.Pattern;

/**
 * Holds the tests of bounds against the document: what a test says that it keeps stands there word by word,
 * each promise has a test, and each place of the document that names a bound is in the words of some test.
 */
public final class BoundsTest {
    private static final Class<?>[] ALL = {
        BoundsTextTest.class, BoundsToldTest.class, BoundsDayTest.class, BoundsLaterTest.class, BoundsOtherwiseTest.class,
        BoundsExplainedTest.class, BoundsImageTest.class, BoundsShelvesTest.class};
    private static final int PROMISES = 51;
    private static final Pattern BOUND = Pattern.compile(
        "\\d \\.\\. \\d|, \\.\\. \\d|at least|at most|one at least|at first|, cut|(?<![\\w-])-\\d+|of several the least|beyond 300|"
            + " held\\)|Exception:|Refused as told|above 100|below 0|no later|no more than|\\(0 nobody\\)|lowest bits|"
            + "without its sign's bit|as many digits|\\(an int\\)|the end, if something lacks|nothing\\.|no room|"
            + "of several|the first one|the first STATEMENT|the first pair|the first place|the first that|is skipped|never|"
            + "just that|half of|512|0 by 1 none|least terms|STRANDED is 2000|STRANDED 2000 each|2000: STRANDED|in all\\)|"
            + "CANCELLED or not|there are 4|stay there|stay as they are|Without FAULT");

    private final String document;
    private final BitSet held = new BitSet();
    private int tests = 0;

    private BoundsTest(String document) {
        this.document = document;
    }

    public static void main(String[] args) throws IOException {
        String text = Files.readString(Path.of("../shared/DOC.md")).replaceAll("\\s+", " ");
        BoundsTest bounds = new BoundsTest(text);
        bounds.quotes();
        bounds.eachBoundIsHeld();
        System.out.println(bounds.tests + " tests of bounds");
        Check.end();
    }

    private int section(int promise) {
        return promise > PROMISES ? document.indexOf("## Not promised") : document.indexOf("## Promise " + promise + ": ");
    }

    /** A test quotes the section of its promise, or else what the document says ahead of all promises. */
    private void quotes() {
        int[] perPromise = new int[PROMISES + 1];
        for (Class<?> of : ALL) {
            for (Method test : Sentences.of(of)) {
                tests++;
                Keeps keeps = test.getAnnotation(Keeps.class);
                perPromise[keeps.promise()]++;
                int from = section(keeps.promise());
                int until = section(keeps.promise() + 1);
                boolean found = hold(keeps.sentence(), from, until) || hold(keeps.sentence(), 0, section(1));
                Check.due("the document says what is kept by " + test.getName(), found ? 1 : 0, 1);
            }
        }
        for (int promise = 1; promise <= PROMISES; promise++) {
            Check.due("tests of promise " + promise + " are missing", perPromise[promise] == 0 ? 1 : 0, 0);
        }
    }

    private boolean hold(String sentence, int from, int until) {
        int at = document.indexOf(sentence, from);
        if (at < 0 || at + sentence.length() > until) {
            return false;
        }
        held.set(at, at + sentence.length());
        return true;
    }

    /** From the object's 512 calls on to the last promise. */
    private void eachBoundIsHeld() {
        Matcher bound = BOUND.matcher(document);
        int found = 0;
        while (bound.find()) {
            int at = bound.start();
            boolean counts = at < document.indexOf("## The public face") && at > document.indexOf("An object is used")
                || at > document.indexOf("## Terms") && at < document.indexOf("## Not promised");
            if (!counts) {
                continue;
            }
            found++;
            String where = document.substring(Math.max(0, at - 60), Math.min(document.length(), bound.end() + 40));
            Check.due("no test quotes: .. " + where + " ..", held.get(at, bound.end()).cardinality() == bound.end() - at ? 1 : 0, 1);
        }
        Check.due("bounds are found", found > 100 ? 1 : 0, 1);
    }
}
