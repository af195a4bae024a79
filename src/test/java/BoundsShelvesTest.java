/** Promises 45 to 51: each sentence of the document that names a bound of shelves. */
public final class BoundsShelvesTest {
    private static final int LEAST = Integer.MIN_VALUE;
    private static final int MOST = Integer.MAX_VALUE;
    private static final String SHELVES = "SHELVES 0 .. 7 each hold nothing (at first), a TRAVELLER's KIND, a ROW.";
    private static final String ROW =
        "A ROW has a SORT (0 bytes, 1 shorts, 2 ints) and 0 .. 100 elements, 0 at first; what is put in keeps its lowest bits.";
    private static final String FIRST_AS_TOLD =
        "Answers of several REFUSALS are the first one as they are told at the call.";
    private static final String KEEP =
        "SHELF d gets: what = 0 nothing (the others do not matter); 1 a TRAVELLER of KIND k with a FIGURE: 0. -1.";
    private static final String ROW_REFUSED = "SHELF d gets a ROW of a SORT: 0. -1 (n above 100); -14.";
    private static final String PUT = "Element i of the ROW becomes v: 0. -1, -11, -12, -13.";
    private static final String ELEMENT =
        "Element i of the ROW. IllegalArgumentException: no such SHELF; IllegalStateException: no ROW, no such place.";
    private static final String COPY =
        "n elements of the ROW in SHELF d from i on come to that in SHELF e from j on: n. -1, -11 (either), -12 (no ROWS of "
        + "one SORT), -13 (n below 0, too).";
    private static final String PLACE = "-13 a place that isn't there (a number or a size that isn't as told, too)";
    private static final String COST =
        "COST of the one on SHELF d: WALKER 5; RUNNER 3 more; TARDY its EXCUSE more (LOVERS, AIMERS their own); LOVER twice a "
        + "TARDY's; STAFF a RUNNER's less 8; SLEEPER 1 more; AIMER a TARDY's and 4; PARENT twice a WALKER's. -1, -11, -12 (a "
        + "ROW).";
    private static final String TOSS =
        "The FAILURE of the one on SHELF d is thrown, and caught: its FIGURE; of TARDY ones 100 more (LOVERS, AIMERS, too); of "
        + "AIMERS 200 plus their COST, in place of all that (FIGURE, too). -1, -11, -12 (a ROW); -15: STAFF, and any with "
        + "FIGURE 0, have none.";

    public static void main(String[] args) {
        Sentences.run(BoundsShelvesTest.class);
    }

    private static long element(SlowerForTheLate x, int d, int i) {
        return Check.answer(() -> x.element(d, i));
    }

    private static void holds(SlowerForTheLate x, int d, int... wants) {
        for (int i = 0; i < wants.length; i++) {
            Check.due("element(" + d + ", " + i + ")", element(x, d, i), wants[i]);
        }
        Check.due("behind the last", element(x, d, wants.length), Check.ILLEGAL_STATE);
    }

    // ---- promise 45: keep

    @Keeps(promise = 45, sentence = SHELVES)
    static void p45_nothingAtFirst() {
        SlowerForTheLate x = new SlowerForTheLate();
        for (int d = 0; d <= 7; d++) {
            Check.due("cost(" + d + ")", x.cost(d), -11);
            Check.due("put(" + d + ", 0, 0)", x.put(d, 0, 0), -11);
        }
    }

    @Keeps(promise = 45, sentence = SHELVES)
    static void p45_shelves0To7() {
        for (int d : Refusals.outside(0, 7)) {
            Refusals.refused("keep(" + d + ", 1, 0, 0)", x -> x.keep(d, 1, 0, 0), -1);
            Refusals.refused("keep(" + d + ", 0, 0, 0)", x -> x.keep(d, 0, 0, 0), -1);
        }
        SlowerForTheLate x = new SlowerForTheLate();
        for (int d = 0; d <= 7; d++) {
            Check.due("keep on " + d, x.keep(d, 1, 0, 0), 0);
            Check.due("cost of " + d, x.cost(d), 5);
        }
    }

    @Keeps(promise = 45, sentence = KEEP)
    static void p45_nothing_theOthersDoNotMatter() {
        for (int other : new int[] {-1, 0, 8, 10, LEAST, MOST}) {
            for (int d : new int[] {Refusals.NOTHING, Refusals.ONE, Refusals.BYTES}) {
                SlowerForTheLate x = Refusals.sample();
                Check.due("keep(" + d + ", 0, " + other + ", " + other + ")", x.keep(d, 0, other, other), 0);
                Check.due("nothing is held", x.cost(d), -11);
                Check.due("no ROW", x.put(d, 0, 0), -11);
            }
        }
    }

    @Keeps(promise = 45, sentence = KEEP)
    static void p45_nothingSuch() {
        for (int what : Refusals.outside(0, 1)) {
            Refusals.refused("keep(1, " + what + ", 0, 0)", x -> x.keep(Refusals.ONE, what, 0, 0), -1);
        }
    }

    @Keeps(promise = 45, sentence = KEEP)
    static void p45_kinds0To7() {
        for (int k : Refusals.outside(0, 7)) {
            Refusals.refused("keep(1, 1, " + k + ", 0)", x -> x.keep(Refusals.ONE, 1, k, 0), -1);
        }
        Check.due("KIND 0", new SlowerForTheLate().keep(0, 1, 0, 0), 0);
        Check.due("KIND 7", new SlowerForTheLate().keep(0, 1, 7, 0), 0);
    }

    @Keeps(promise = 45, sentence = KEEP)
    static void p45_figures0To9() {
        for (int figure : Refusals.outside(0, 9)) {
            Refusals.refused("keep(1, 1, 0, " + figure + ")", x -> x.keep(Refusals.ONE, 1, 0, figure), -1);
        }
        Check.due("FIGURE 0", new SlowerForTheLate().keep(0, 1, 0, 0), 0);
        Check.due("FIGURE 9", new SlowerForTheLate().keep(0, 1, 0, 9), 0);
    }

    private static final String HELD = "-11 nothing is held where something is wanted; -12 it is of another kind;";

    @Keeps(promise = 45, sentence = HELD)
    static void p45_whatIsGivenUpIsWantedInVain() {
        SlowerForTheLate x = Refusals.sample();
        for (int d : new int[] {Refusals.ONE, Refusals.BYTES}) {
            x.keep(d, 0, 0, 0);
            Check.due("day", x.day(d), -11);
            Check.due("comes", x.comes(d, 0, 1, 0), -11);
            Check.due("tickets", x.tickets(d, 0), -11);
            Check.due("forged", x.forged(d), -11);
            Check.due("judge", x.judge(0, d), -11);
            Check.due("put", x.put(d, 0, 0), -11);
            Check.due("copy from", x.copy(d, 0, Refusals.SHORTS, 0, 1), -11);
            Check.due("copy to", x.copy(Refusals.SHORTS, 0, d, 0, 1), -11);
            Check.due("cost", x.cost(d), -11);
            Check.due("toss", x.toss(d), -11);
            Check.due("element", element(x, d, 0), Check.ILLEGAL_STATE);
        }
    }

    @Keeps(promise = 45, sentence = HELD)
    static void p45_itIsOfAnotherKind() {
        SlowerForTheLate x = Refusals.sample();
        Check.due("day", x.day(Refusals.ONE), -12);
        Check.due("tickets", x.tickets(Refusals.ONE, 0), -12);
        Check.due("forged", x.forged(Refusals.ONE), -12);
        Check.due("judge", x.judge(0, Refusals.ONE), -12);
        Check.due("put", x.put(Refusals.ONE, 0, 0), -12);
        Check.due("copy from", x.copy(Refusals.ONE, 0, Refusals.SHORTS, 0, 1), -12);
        Check.due("copy to", x.copy(Refusals.SHORTS, 0, Refusals.ONE, 0, 1), -12);
        Check.due("comes", x.comes(Refusals.BYTES, 0, 1, 0), -12);
        Check.due("cost", x.cost(Refusals.BYTES), -12);
        Check.due("toss", x.toss(Refusals.BYTES), -12);
        Check.due("element", element(x, Refusals.ONE, 0), Check.ILLEGAL_STATE);
    }

    // ---- promise 46: row

    @Keeps(promise = 46, sentence = ROW)
    static void p46_0Elements() {
        for (int sort = 0; sort < 3; sort++) {
            SlowerForTheLate x = new SlowerForTheLate();
            Check.due("a row of none", x.row(0, sort, 0), 0);
            Check.due("put", x.put(0, 0, 1), -13);
            Check.due("element", element(x, 0, 0), Check.ILLEGAL_STATE);
            Check.due("it is held", x.cost(0), -12);
        }
    }

    @Keeps(promise = 46, sentence = ROW)
    static void p46_100Elements_0AtFirst() {
        for (int sort = 0; sort < 3; sort++) {
            SlowerForTheLate x = new SlowerForTheLate();
            Check.due("a row of 100", x.row(0, sort, 100), 0);
            for (int i = 0; i < 100; i++) {
                Check.due("element " + i, element(x, 0, i), 0);
            }
            Check.due("put the last", x.put(0, 99, 7), 0);
            Check.due("the last", element(x, 0, 99), 7);
            Check.due("behind it", x.put(0, 100, 7), -13);
            Check.due("behind it", element(x, 0, 100), Check.ILLEGAL_STATE);
            Check.due("another row", x.row(0, sort, 100), 0);
            Check.due("0 at first", element(x, 0, 99), 0);
        }
    }

    @Keeps(promise = 46, sentence = ROW_REFUSED)
    static void p46_above100() {
        for (int sort = 0; sort < 3; sort++) {
            int s = sort;
            for (int n : new int[] {101, 1000, MOST}) {
                Refusals.refused("row(2, " + sort + ", " + n + ")", x -> x.row(Refusals.BYTES, s, n), -1);
            }
        }
    }

    @Keeps(promise = 46, sentence = "-14 a size below 0")
    static void p46_below0() {
        for (int sort = 0; sort < 3; sort++) {
            int s = sort;
            for (int n : new int[] {-1, -100, LEAST}) {
                Refusals.refused("row(2, " + sort + ", " + n + ")", x -> x.row(Refusals.BYTES, s, n), -14);
            }
        }
        Refusals.refused("on an empty shelf", x -> x.row(Refusals.NOTHING, 0, -1), -14);
    }

    @Keeps(promise = 46, sentence = ROW_REFUSED)
    static void p46_noSuchShelf() {
        for (int d : Refusals.outside(0, 7)) {
            Refusals.refused("row(" + d + ", 0, 1)", x -> x.row(d, 0, 1), -1);
        }
        Check.due("shelf 0", new SlowerForTheLate().row(0, 0, 1), 0);
        Check.due("shelf 7", new SlowerForTheLate().row(7, 0, 1), 0);
    }

    @Keeps(promise = 46, sentence = ROW)
    static void p46_sorts0To2() {
        for (int sort : Refusals.outside(0, 2)) {
            Refusals.refused("row(2, " + sort + ", 1)", x -> x.row(Refusals.BYTES, sort, 1), -1);
        }
    }

    @Keeps(promise = 46, sentence = FIRST_AS_TOLD)
    static void p46_ofSeveral_minus1AheadOfASizeBelow0() {
        for (int d : Refusals.outside(0, 7)) {
            Refusals.refused("no such shelf, below 0", x -> x.row(d, 0, -1), -1);
        }
        for (int sort : Refusals.outside(0, 2)) {
            Refusals.refused("no such sort, below 0", x -> x.row(Refusals.BYTES, sort, -1), -1);
        }
        Refusals.refused("neither, below 0", x -> x.row(8, 3, LEAST), -1);
    }

    @Keeps(promise = 46, sentence = SHELVES)
    static void p46_inPlaceOfATraveller_andTheOtherWayRound() {
        SlowerForTheLate x = new SlowerForTheLate();
        x.keep(0, 1, 0, 0);
        x.row(0, 0, 1);
        Check.due("no TRAVELLER any more", x.cost(0), -12);
        x.keep(0, 1, 0, 0);
        Check.due("no ROW any more", x.put(0, 0, 1), -12);
        Check.due("no ROW any more", element(x, 0, 0), Check.ILLEGAL_STATE);
        x.keep(0, 0, 0, 0);
        Check.due("nothing", x.cost(0), -11);
    }

    // ---- promise 47: put

    private static void keepsLowestBits(int sort, int[] puts, int[] wants) {
        SlowerForTheLate x = new SlowerForTheLate();
        x.row(0, sort, 1);
        for (int i = 0; i < puts.length; i++) {
            Check.due("put " + puts[i], x.put(0, 0, puts[i]), 0);
            Check.due("of " + puts[i] + " there stays", element(x, 0, 0), wants[i]);
        }
    }

    @Keeps(promise = 47, sentence = "what is put in keeps its lowest bits.")
    static void p47_bytesWrapAround() {
        keepsLowestBits(0,
            new int[] {127, 128, 255, 256, -128, -129, -256, -257, 511, 65535, 65536, MOST, LEAST},
            new int[] {127, -128, -1, 0, -128, 127, 0, -1, -1, -1, 0, -1, 0});
    }

    @Keeps(promise = 47, sentence = "what is put in keeps its lowest bits.")
    static void p47_shortsWrapAround() {
        keepsLowestBits(1,
            new int[] {127, 128, 32767, 32768, 65535, 65536, -32768, -32769, -65536, 98304, MOST, LEAST},
            new int[] {127, 128, 32767, -32768, -1, 0, -32768, 32767, 0, -32768, -1, 0});
    }

    @Keeps(promise = 47, sentence = "what is put in keeps its lowest bits.")
    static void p47_intsAsTheyAre() {
        int[] all = {127, 128, 32768, 65536, -129, -32769, MOST, LEAST, MOST - 1, LEAST + 1};
        keepsLowestBits(2, all, all);
    }

    @Keeps(promise = 47, sentence = PUT)
    static void p47_noSuchShelf() {
        for (int d : Refusals.outside(0, 7)) {
            Refusals.refused("put(" + d + ", 0, 1)", x -> x.put(d, 0, 1), -1);
        }
    }

    @Keeps(promise = 47, sentence = PUT)
    static void p47_nothingHeld() {
        Refusals.refused("put(0, 0, 1)", x -> x.put(Refusals.NOTHING, 0, 1), -11);
    }

    @Keeps(promise = 47, sentence = PUT)
    static void p47_noRow() {
        Refusals.refused("put(1, 0, 1)", x -> x.put(Refusals.ONE, 0, 1), -12);
    }

    @Keeps(promise = 47, sentence = PUT)
    static void p47_noSuchPlace() {
        for (int i : Refusals.outside(0, 4)) {
            Refusals.refused("put(2, " + i + ", 9)", x -> x.put(Refusals.BYTES, i, 9), -13);
        }
        SlowerForTheLate x = Refusals.sample();
        Check.due("the first", x.put(Refusals.BYTES, 0, 9), 0);
        Check.due("the last", x.put(Refusals.BYTES, 4, 8), 0);
        holds(x, Refusals.BYTES, 9, 2, 3, 4, 8);
    }

    @Keeps(promise = 47, sentence = FIRST_AS_TOLD)
    static void p47_ofSeveral_inTheirOrder() {
        for (int i : new int[] {-1, 5, LEAST, MOST}) {
            Refusals.refused("no such shelf, no such place", x -> x.put(8, i, 1), -1);
            Refusals.refused("no such shelf, no such place", x -> x.put(-1, i, 1), -1);
            Refusals.refused("nothing held, no such place", x -> x.put(Refusals.NOTHING, i, 1), -11);
            Refusals.refused("no ROW, no such place", x -> x.put(Refusals.ONE, i, 1), -12);
        }
    }

    // ---- promise 48: element

    @Keeps(promise = 48, sentence = ELEMENT)
    static void p48_noSuchShelf() {
        for (int d : Refusals.outside(0, 7)) {
            Refusals.refused("element(" + d + ", 0)", x -> x.element(d, 0), Check.ILLEGAL_ARGUMENT);
        }
    }

    @Keeps(promise = 48, sentence = ELEMENT)
    static void p48_noRow() {
        Refusals.refused("of nothing", x -> x.element(Refusals.NOTHING, 0), Check.ILLEGAL_STATE);
        Refusals.refused("of a TRAVELLER", x -> x.element(Refusals.ONE, 0), Check.ILLEGAL_STATE);
    }

    @Keeps(promise = 48, sentence = ELEMENT)
    static void p48_noSuchPlace() {
        for (int i : Refusals.outside(0, 4)) {
            Refusals.refused("element(2, " + i + ")", x -> x.element(Refusals.BYTES, i), Check.ILLEGAL_STATE);
        }
        Check.due("the first", element(Refusals.sample(), Refusals.BYTES, 0), 1);
        Check.due("the last", element(Refusals.sample(), Refusals.BYTES, 4), 5);
    }

    @Keeps(promise = 48, sentence = ELEMENT)
    static void p48_ofSeveral_noSuchShelfFirst() {
        for (int i : new int[] {-1, 100, LEAST, MOST}) {
            Refusals.refused("element(-1, " + i + ")", x -> x.element(-1, i), Check.ILLEGAL_ARGUMENT);
            Refusals.refused("element(8, " + i + ")", x -> x.element(8, i), Check.ILLEGAL_ARGUMENT);
            Refusals.refused("element(0, " + i + ")", x -> x.element(Refusals.NOTHING, i), Check.ILLEGAL_STATE);
            Refusals.refused("element(1, " + i + ")", x -> x.element(Refusals.ONE, i), Check.ILLEGAL_STATE);
        }
    }

    @Keeps(promise = 48, sentence = ELEMENT)
    static void p48_theseVeryExceptions() {
        Check.due("no such SHELF", thrown(8, 0).equals("java.lang.IllegalArgumentException") ? 1 : 0, 1);
        Check.due("no ROW", thrown(0, 0).equals("java.lang.IllegalStateException") ? 1 : 0, 1);
        Check.due("no such place", thrown(Refusals.BYTES, 5).equals("java.lang.IllegalStateException") ? 1 : 0, 1);
        Check.due("none", thrown(Refusals.BYTES, 4).equals("none") ? 1 : 0, 1);
    }

    private static String thrown(int d, int i) {
        try {
            Refusals.sample().element(d, i);
            return "none";
        } catch (RuntimeException e) {
            return e.getClass().getName();
        }
    }

    // ---- promise 49: copy

    /** Shelves 0 and 1 hold bytes 1 to 5 and 6 to 8. */
    private static SlowerForTheLate rows() {
        SlowerForTheLate x = new SlowerForTheLate();
        Check.write(x, 0, 0, 1, 2, 3, 4, 5);
        Check.write(x, 1, 0, 6, 7, 8);
        Check.write(x, 2, 1, 6, 7, 8);
        Check.write(x, 3, 2, 6, 7, 8);
        x.keep(4, 1, 0, 0);
        return x;
    }

    @Keeps(promise = 49, sentence = COPY)
    static void p49_allOfThem() {
        SlowerForTheLate x = rows();
        Check.due("all of one", x.copy(1, 0, 0, 0, 3), 3);
        holds(x, 0, 6, 7, 8, 4, 5);
        Check.due("up to the end of both", x.copy(0, 2, 1, 0, 3), 3);
        holds(x, 1, 8, 4, 5);
        Check.due("the last to the first", x.copy(0, 4, 1, 0, 1), 1);
        holds(x, 1, 5, 4, 5);
        Check.due("the first to the last", x.copy(0, 0, 1, 2, 1), 1);
        holds(x, 1, 5, 4, 6);
        Check.due("onto itself", x.copy(0, 0, 0, 0, 5), 5);
        holds(x, 0, 6, 7, 8, 4, 5);
        SlowerForTheLate y = new SlowerForTheLate();
        y.row(0, 2, 100);
        y.row(1, 2, 100);
        y.put(0, 99, 7);
        Check.due("a hundred", y.copy(0, 0, 1, 0, 100), 100);
        Check.due("the last", element(y, 1, 99), 7);
    }

    @Keeps(promise = 49, sentence = COPY)
    static void p49_withinOneRow_overlapping() {
        SlowerForTheLate x = rows();
        Check.due("farther", x.copy(0, 0, 0, 1, 4), 4);
        holds(x, 0, 1, 1, 2, 3, 4);
        Check.due("nearer", x.copy(0, 1, 0, 0, 4), 4);
        holds(x, 0, 1, 2, 3, 4, 4);
    }

    @Keeps(promise = 49, sentence = COPY)
    static void p49_none() {
        SlowerForTheLate x = rows();
        Check.due("0 of them", x.copy(0, 0, 1, 0, 0), 0);
        Check.due("0 from the last", x.copy(0, 4, 1, 2, 0), 0);
        Check.due("0 from the end", x.copy(0, 5, 1, 3, 0), 0);
        holds(x, 0, 1, 2, 3, 4, 5);
        holds(x, 1, 6, 7, 8);
        x.row(5, 0, 0);
        Check.due("0 of none", x.copy(5, 0, 1, 0, 0), 0);
        Check.due("0 to none", x.copy(0, 0, 5, 0, 0), 0);
    }

    @Keeps(promise = 49, sentence = COPY)
    static void p49_noSuchShelf() {
        for (int d : Refusals.outside(0, 7)) {
            Refusals.refused("from " + d, BoundsShelvesTest::rows, x -> x.copy(d, 0, 1, 0, 1), -1);
            Refusals.refused("to " + d, BoundsShelvesTest::rows, x -> x.copy(0, 0, d, 0, 1), -1);
        }
    }

    @Keeps(promise = 49, sentence = COPY)
    static void p49_nothingHeld_either() {
        Refusals.refused("from nothing", BoundsShelvesTest::rows, x -> x.copy(7, 0, 1, 0, 1), -11);
        Refusals.refused("to nothing", BoundsShelvesTest::rows, x -> x.copy(0, 0, 7, 0, 1), -11);
        Refusals.refused("both", BoundsShelvesTest::rows, x -> x.copy(7, 0, 7, 0, 1), -11);
    }

    @Keeps(promise = 49, sentence = COPY)
    static void p49_noRowsOfOneSort() {
        int[][] pairs = {{0, 2}, {0, 3}, {2, 0}, {2, 3}, {3, 0}, {3, 2}, {4, 0}, {0, 4}, {4, 4}};
        for (int[] pair : pairs) {
            Refusals.refused("from " + pair[0] + " to " + pair[1], BoundsShelvesTest::rows, x -> x.copy(pair[0], 0, pair[1], 0, 1), -12);
            Refusals.refused("0 from " + pair[0] + " to " + pair[1], BoundsShelvesTest::rows, x -> x.copy(pair[0], 0, pair[1], 0, 0), -12);
        }
    }

    private static void noSuchPlace(int i, int j, int n) {
        Refusals.refused("copy(0, " + i + ", 1, " + j + ", " + n + ")", BoundsShelvesTest::rows, x -> x.copy(0, i, 1, j, n), -13);
    }

    @Keeps(promise = 49, sentence = PLACE)
    static void p49_placesBelow0() {
        for (int below : new int[] {-1, LEAST}) {
            noSuchPlace(below, 0, 1);
            noSuchPlace(0, below, 1);
            noSuchPlace(below, 0, 0);
            noSuchPlace(0, below, 0);
        }
    }

    @Keeps(promise = 49, sentence = PLACE)
    static void p49_placesBehindTheEnd() {
        noSuchPlace(5, 0, 1);
        noSuchPlace(0, 3, 1);
        noSuchPlace(6, 0, 0);
        noSuchPlace(0, 4, 0);
        noSuchPlace(3, 0, 3);
        noSuchPlace(0, 1, 3);
        noSuchPlace(0, 0, 4);
        noSuchPlace(0, 0, 6);
    }

    @Keeps(promise = 49, sentence = PLACE)
    static void p49_sumsThatWrapAround() {
        noSuchPlace(MOST, 0, 1);
        noSuchPlace(0, MOST, 1);
        noSuchPlace(1, 0, MOST);
        noSuchPlace(0, 1, MOST);
        noSuchPlace(MOST, MOST, MOST);
        noSuchPlace(MOST, 0, 2);
        noSuchPlace(2, 2, MOST - 1);
    }

    @Keeps(promise = 49, sentence = COPY)
    static void p49_nBelow0() {
        noSuchPlace(0, 0, -1);
        noSuchPlace(1, 1, -1);
        noSuchPlace(2, 2, -2);
        noSuchPlace(0, 0, LEAST);
        noSuchPlace(MOST, MOST, LEAST);
    }

    @Keeps(promise = 49, sentence = FIRST_AS_TOLD)
    static void p49_ofSeveral_inTheirOrder() {
        for (int n : new int[] {-1, 0, 1, MOST}) {
            Refusals.refused("no such shelf, nothing held", BoundsShelvesTest::rows, x -> x.copy(8, -1, 7, -1, n), -1);
            Refusals.refused("nothing held, no such shelf", BoundsShelvesTest::rows, x -> x.copy(7, -1, 8, -1, n), -1);
            Refusals.refused("a TRAVELLER, no such shelf", BoundsShelvesTest::rows, x -> x.copy(4, -1, -1, -1, n), -1);
            Refusals.refused("nothing held, a TRAVELLER", BoundsShelvesTest::rows, x -> x.copy(7, -1, 4, -1, n), -11);
            Refusals.refused("a TRAVELLER, nothing held", BoundsShelvesTest::rows, x -> x.copy(4, -1, 7, -1, n), -11);
            Refusals.refused("a row, nothing held, no such place", BoundsShelvesTest::rows, x -> x.copy(0, -1, 7, -1, n), -11);
            Refusals.refused("two sorts, no such place", BoundsShelvesTest::rows, x -> x.copy(0, -1, 2, 9, n), -12);
            Refusals.refused("a TRAVELLER, no such place", BoundsShelvesTest::rows, x -> x.copy(4, 9, 0, -1, n), -12);
        }
    }

    // ---- promise 50: cost

    private static long cost(int kind, int figure) {
        SlowerForTheLate x = new SlowerForTheLate();
        x.keep(3, 1, kind, figure);
        return x.cost(3);
    }

    @Keeps(promise = 50, sentence = COST)
    static void p50_figure0And9() {
        int[] least = {5, 8, 5, 20, 0, 6, 9, 10};
        int[] most = {5, 8, 14, 38, 0, 6, 17, 10};
        for (int kind = 0; kind < 8; kind++) {
            Check.due("KIND " + kind + ", FIGURE 0", cost(kind, 0), least[kind]);
            Check.due("KIND " + kind + ", FIGURE 9", cost(kind, 9), most[kind]);
        }
    }

    @Keeps(promise = 50, sentence = COST)
    static void p50_anAimersOwnExcuse_0AtLeast() {
        Check.due("FIGURE 0", cost(6, 0), 9);
        Check.due("FIGURE 1", cost(6, 1), 9);
        Check.due("FIGURE 2", cost(6, 2), 10);
    }

    @Keeps(promise = 50, sentence = COST)
    static void p50_noSuchShelf() {
        for (int d : Refusals.outside(0, 7)) {
            Refusals.refused("cost(" + d + ")", x -> x.cost(d), -1);
        }
    }

    @Keeps(promise = 50, sentence = COST)
    static void p50_nothingHeld() {
        Refusals.refused("cost(0)", x -> x.cost(Refusals.NOTHING), -11);
    }

    @Keeps(promise = 50, sentence = COST)
    static void p50_aRow() {
        Refusals.refused("of bytes", x -> x.cost(Refusals.BYTES), -12);
        Refusals.refused("of shorts", x -> x.cost(Refusals.SHORTS), -12);
        Refusals.refused("of ints", x -> x.cost(Refusals.INTS), -12);
    }

    // ---- promise 51: toss

    private static long toss(int kind, int figure) {
        SlowerForTheLate x = new SlowerForTheLate();
        x.keep(3, 1, kind, figure);
        return x.toss(3);
    }

    @Keeps(promise = 51, sentence = TOSS)
    static void p51_figure0HasNone() {
        for (int kind = 0; kind < 8; kind++) {
            Check.due("KIND " + kind, toss(kind, 0), -15);
        }
    }

    @Keeps(promise = 51, sentence = TOSS)
    static void p51_figure1And9() {
        int[] least = {1, 1, 101, 101, -15, 1, 209, 1};
        int[] most = {9, 9, 109, 109, -15, 9, 217, 9};
        for (int kind = 0; kind < 8; kind++) {
            Check.due("KIND " + kind + ", FIGURE 1", toss(kind, 1), least[kind]);
            Check.due("KIND " + kind + ", FIGURE 9", toss(kind, 9), most[kind]);
        }
    }

    @Keeps(promise = 51, sentence = TOSS)
    static void p51_staffHaveNone() {
        for (int figure = 0; figure < 10; figure++) {
            Check.due("FIGURE " + figure, toss(4, figure), -15);
        }
    }

    @Keeps(promise = 51, sentence = TOSS)
    static void p51_noSuchShelf() {
        for (int d : Refusals.outside(0, 7)) {
            Refusals.refused("toss(" + d + ")", x -> x.toss(d), -1);
        }
    }

    @Keeps(promise = 51, sentence = TOSS)
    static void p51_nothingHeld() {
        Refusals.refused("toss(0)", x -> x.toss(Refusals.NOTHING), -11);
    }

    @Keeps(promise = 51, sentence = TOSS)
    static void p51_aRow() {
        Refusals.refused("of bytes", x -> x.toss(Refusals.BYTES), -12);
        Refusals.refused("of shorts", x -> x.toss(Refusals.SHORTS), -12);
        Refusals.refused("of ints", x -> x.toss(Refusals.INTS), -12);
    }

    @Keeps(promise = 51, sentence = "-15 a FAILURE that is none.")
    static void p51_aFailureThatIsNone_changesNothing() {
        Refusals.refused("of STAFF", BoundsShelvesTest::withStaff, x -> x.toss(6), -15);
        Refusals.refused("of FIGURE 0", BoundsShelvesTest::withStaff, x -> x.toss(7), -15);
    }

    private static SlowerForTheLate withStaff() {
        SlowerForTheLate x = Refusals.sample();
        x.keep(6, 1, 4, 9);
        x.keep(7, 1, 2, 0);
        return x;
    }
}
