import java.util.function.LongSupplier;

/** What all tests share: a call's answer against the one that is due, and texts of days. */
final class Check {
    /** An exception instead of an answer, as a number that no call gives. */
    static final long ILLEGAL_ARGUMENT = Long.MIN_VALUE + 1;
    static final long ILLEGAL_STATE = Long.MIN_VALUE + 2;

    private static int looked = 0;
    private static int wrong = 0;
    private static String test = "";

    private Check() {
    }

    /** Of which test the calls are from here on, to be told with those that fail. */
    static void within(String name) {
        test = name.isEmpty() ? "" : name + ": ";
    }

    static void due(String call, long got, long want) {
        looked++;
        if (got != want) {
            wrong++;
            System.out.println(test + call + " answered " + got + ", due is " + want);
        }
    }

    static long answer(LongSupplier call) {
        try {
            return call.getAsLong();
        } catch (IllegalArgumentException e) {
            return ILLEGAL_ARGUMENT;
        } catch (IllegalStateException e) {
            return ILLEGAL_STATE;
        }
    }

    /** Puts a text on a shelf as a row of bytes. */
    static void write(SlowerForTheLate x, int d, String text) {
        x.row(d, 0, text.length());
        for (int i = 0; i < text.length(); i++) {
            x.put(d, i, text.charAt(i));
        }
    }

    /** Puts a row of a sort on a shelf. */
    static void write(SlowerForTheLate x, int d, int sort, int... values) {
        x.row(d, sort, values.length);
        for (int i = 0; i < values.length; i++) {
            x.put(d, i, values[i]);
        }
    }

    /** A new object with a day that is told by shelf 7, which holds nothing after that. */
    static SlowerForTheLate of(String text) {
        SlowerForTheLate x = new SlowerForTheLate();
        write(x, 7, text);
        if (x.day(7) < 0) {
            wrong++;
            System.out.println("the text is refused: " + text);
        }
        x.keep(7, 0, 0, 0);
        return x;
    }

    /** Ends the test: code 1 if anything was not as due. */
    static void end() {
        System.out.println(wrong == 0 ? looked + " answers are as due" : wrong + " answers are not as due");
        if (wrong != 0 || looked == 0) {
            System.exit(1);
        }
    }
}
