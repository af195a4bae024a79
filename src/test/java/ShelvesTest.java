/** Promises 45 to 51: shelves. */
public final class ShelvesTest {
    private static final int LEAST = Integer.MIN_VALUE;
    private static final int MOST = Integer.MAX_VALUE;

    public static void main(String[] args) {
        keep();
        row();
        put();
        element();
        copy();
        copyRefusals();
        costs();
        tosses();
        Check.end();
    }

    private static long element(SlowerForTheLate x, int d, int i) {
        return Check.answer(() -> x.element(d, i));
    }

    private static void keep() {
        SlowerForTheLate x = new SlowerForTheLate();
        for (int d = 0; d < 8; d++) {
            Check.due("keep on " + d, x.keep(d, 1, d, 9 - d), 0);
        }
        int[] costs = {5, 8, 5 + 7, 2 * (5 + 11), 0, 6, 9 + 2, 10};
        for (int d = 0; d < 8; d++) {
            Check.due("cost on " + d, x.cost(d), costs[d]);
        }
        int[][] bad = {
            {-1, 0, 0, 0}, {8, 0, 0, 0}, {LEAST, 1, 0, 0}, {0, -1, 0, 0}, {0, 2, 0, 0}, {0, MOST, 0, 0}, {0, 1, -1, 0},
            {0, 1, 8, 0}, {0, 1, 0, -1}, {0, 1, 0, 10}, {0, 1, LEAST, MOST}};
        for (int[] b : bad) {
            Check.due("keep out of range", x.keep(b[0], b[1], b[2], b[3]), -1);
        }
        Check.due("what was refused changes nothing", x.cost(0), 5);
        Check.due("nothing, the others do not matter", x.keep(0, 0, LEAST, MOST), 0);
        Check.due("it holds nothing", x.cost(0), -11);
        x.row(1, 0, 3);
        Check.due("a traveller in place of a row", x.keep(1, 1, 0, 1), 0);
        Check.due("no row", x.put(1, 0, 0), -12);
        x.row(1, 0, 3);
        Check.due("nothing in place of a row", x.keep(1, 0, 0, 0), 0);
        Check.due("nothing", x.put(1, 0, 0), -11);
    }

    private static void row() {
        SlowerForTheLate x = new SlowerForTheLate();
        for (int sort = 0; sort < 3; sort++) {
            Check.due("row of 100", x.row(sort, sort, 100), 0);
            Check.due("0 at first", x.element(sort, 99), 0);
            Check.due("100 of them", element(x, sort, 100), Check.ILLEGAL_STATE);
        }
        Check.due("row of none", x.row(7, 2, 0), 0);
        Check.due("none", x.put(7, 0, 1), -13);
        int[][] bad = {
            {-1, 0, 1}, {8, 0, 1}, {LEAST, 0, 1}, {0, -1, 1}, {0, 3, 1}, {0, MOST, 1}, {0, 0, 101}, {0, 0, MOST}};
        for (int[] b : bad) {
            Check.due("row out of range", x.row(b[0], b[1], b[2]), -1);
        }
        Check.due("below 0", x.row(0, 0, -1), -14);
        Check.due("far below 0", x.row(0, 0, LEAST), -14);
        Check.due("no shelf ahead of below 0", x.row(8, 0, -1), -1);
        Check.due("no sort ahead of below 0", x.row(0, 3, -1), -1);
        Check.due("what was refused changes nothing", x.element(0, 99), 0);
        x.put(0, 1, 5);
        x.row(0, 0, 3);
        Check.due("a new row", x.element(0, 1), 0);
        x.keep(3, 1, 0, 0);
        x.row(3, 0, 3);
        Check.due("a row in place of a traveller", x.cost(3), -12);
    }

    private static void put() {
        SlowerForTheLate x = new SlowerForTheLate();
        int[] values = {0, 1, -1, 127, 128, -128, -129, 255, 256, 32767, 32768, -32768, -32769, 65535, 65536, 70000, MOST, LEAST};
        int[] bytes = {0, 1, -1, 127, -128, -128, 127, -1, 0, -1, 0, 0, -1, -1, 0, 112, -1, 0};
        int[] shorts = {0, 1, -1, 127, 128, -128, -129, 255, 256, 32767, -32768, -32768, 32767, -1, 0, 4464, -1, 0};
        int[][] wants = {bytes, shorts, values};
        for (int sort = 0; sort < 3; sort++) {
            x.row(sort, sort, values.length);
            for (int i = 0; i < values.length; i++) {
                Check.due("put(" + sort + ", " + i + ", " + values[i] + ")", x.put(sort, i, values[i]), 0);
            }
            for (int i = 0; i < values.length; i++) {
                Check.due("element(" + sort + ", " + i + ")", x.element(sort, i), wants[sort][i]);
            }
        }
        Check.due("put on no shelf", x.put(-1, 0, 1), -1);
        Check.due("put on no shelf, 8", x.put(8, 0, 1), -1);
        Check.due("put on no shelf, no place", x.put(8, -1, 1), -1);
        Check.due("put on nothing", x.put(3, -1, 1), -11);
        x.keep(3, 1, 0, 0);
        Check.due("put on a traveller", x.put(3, -1, 1), -12);
        x.row(3, 2, 4);
        for (int i : new int[] {-1, 4, 100, LEAST, MOST}) {
            Check.due("put at " + i, x.put(3, i, 1), -13);
        }
    }

    private static void element() {
        SlowerForTheLate x = new SlowerForTheLate();
        for (int d : new int[] {-1, 8, LEAST, MOST}) {
            Check.due("element of no shelf " + d, element(x, d, 0), Check.ILLEGAL_ARGUMENT);
            Check.due("element of no shelf, no place " + d, element(x, d, -1), Check.ILLEGAL_ARGUMENT);
        }
        Check.due("element of nothing", element(x, 0, 0), Check.ILLEGAL_STATE);
        x.keep(0, 1, 0, 0);
        Check.due("element of a traveller", element(x, 0, 0), Check.ILLEGAL_STATE);
        x.row(0, 2, 2);
        x.put(0, 1, LEAST);
        Check.due("element(0, 1)", element(x, 0, 1), LEAST);
        for (int i : new int[] {-1, 2, LEAST, MOST}) {
            Check.due("element at " + i, element(x, 0, i), Check.ILLEGAL_STATE);
        }
    }

    private static void holds(String of, SlowerForTheLate x, int d, int... wants) {
        for (int i = 0; i < wants.length; i++) {
            Check.due(of + ": element(" + d + ", " + i + ")", x.element(d, i), wants[i]);
        }
        Check.due(of + ": the end", element(x, d, wants.length), Check.ILLEGAL_STATE);
    }

    private static void copy() {
        SlowerForTheLate x = new SlowerForTheLate();
        for (int sort = 0; sort < 3; sort++) {
            Check.write(x, 0, sort, 1, 2, 3, 4, 5);
            Check.write(x, 1, sort, 6, 7, 8);
            Check.due("copy(0, 1, 1, 0, 2)", x.copy(0, 1, 1, 0, 2), 2);
            holds("goal", x, 1, 2, 3, 8);
            holds("source", x, 0, 1, 2, 3, 4, 5);
            Check.due("copy(0, 2, 1, 0, 3)", x.copy(0, 2, 1, 0, 3), 3);
            holds("goal", x, 1, 3, 4, 5);
            Check.due("copy(0, 0, 1, 2, 0)", x.copy(0, 0, 1, 2, 0), 0);
            Check.due("none, behind the last", x.copy(0, 5, 1, 3, 0), 0);
            holds("goal", x, 1, 3, 4, 5);
            Check.due("farther in one row", x.copy(0, 0, 0, 1, 4), 4);
            holds("farther", x, 0, 1, 1, 2, 3, 4);
            Check.due("nearer in one row", x.copy(0, 2, 0, 0, 3), 3);
            holds("nearer", x, 0, 2, 3, 4, 3, 4);
        }
    }

    private static void copyRefusals() {
        SlowerForTheLate x = new SlowerForTheLate();
        Check.write(x, 0, 0, 1, 2, 3, 4, 5);
        Check.write(x, 1, 0, 6, 7, 8);
        Check.write(x, 2, 1, 6, 7, 8);
        x.keep(3, 1, 0, 0);
        for (int o : new int[] {-1, 8, LEAST, MOST}) {
            Check.due("from no shelf", x.copy(o, 0, 1, 0, 1), -1);
            Check.due("to no shelf", x.copy(0, 0, o, 0, 1), -1);
            Check.due("from nothing to no shelf", x.copy(4, 0, o, 0, 1), -1);
        }
        Check.due("from nothing", x.copy(4, 0, 1, 0, 1), -11);
        Check.due("to nothing", x.copy(0, 0, 4, 0, 1), -11);
        Check.due("from a traveller to nothing", x.copy(3, 0, 4, 0, -1), -11);
        Check.due("from nothing to a traveller", x.copy(4, 0, 3, 0, -1), -11);
        Check.due("from a traveller", x.copy(3, 0, 1, 0, 1), -12);
        Check.due("to a traveller", x.copy(0, 0, 3, 0, 1), -12);
        Check.due("bytes to shorts", x.copy(0, 0, 2, 0, 1), -12);
        Check.due("shorts to bytes", x.copy(2, 0, 0, 0, -1), -12);
        int[][] bad = {
            {0, 0, -1}, {0, 0, 4}, {0, 1, 3}, {3, 0, 3}, {-1, 0, 1}, {0, -1, 1}, {5, 0, 1}, {0, 3, 1}, {6, 0, 0}, {0, 4, 0},
            {MOST, 0, 1}, {0, MOST, 1}, {1, 0, MOST}, {MOST, MOST, MOST}, {LEAST, 0, 1}, {0, LEAST, 1}, {0, 0, LEAST}, {-1, -1, 0}};
        for (int[] b : bad) {
            Check.due("copy(0, " + b[0] + ", 1, " + b[1] + ", " + b[2] + ")", x.copy(0, b[0], 1, b[1], b[2]), -13);
        }
        holds("as it was", x, 1, 6, 7, 8);
    }

    private static void costs() {
        SlowerForTheLate x = new SlowerForTheLate();
        int[] figures = {0, 1, 4, 9};
        int[][] wants = {
            {5, 5, 5, 5}, {8, 8, 8, 8}, {5, 6, 9, 14}, {20, 22, 28, 38}, {0, 0, 0, 0}, {6, 6, 6, 6}, {9, 9, 12, 17},
            {10, 10, 10, 10}};
        for (int kind = 0; kind < 8; kind++) {
            for (int i = 0; i < figures.length; i++) {
                x.keep(5, 1, kind, figures[i]);
                Check.due("cost of kind " + kind + ", figure " + figures[i], x.cost(5), wants[kind][i]);
                Check.due("and again", x.cost(5), wants[kind][i]);
            }
        }
        Check.due("cost(-1)", x.cost(-1), -1);
        Check.due("cost(8)", x.cost(8), -1);
        Check.due("cost of nothing", x.cost(0), -11);
        x.row(0, 0, 0);
        Check.due("cost of a row", x.cost(0), -12);
    }

    private static void tosses() {
        SlowerForTheLate x = new SlowerForTheLate();
        int[] figures = {0, 1, 4, 9};
        int[][] wants = {
            {-15, 1, 4, 9}, {-15, 1, 4, 9}, {-15, 101, 104, 109}, {-15, 101, 104, 109}, {-15, -15, -15, -15}, {-15, 1, 4, 9},
            {-15, 209, 212, 217}, {-15, 1, 4, 9}};
        for (int kind = 0; kind < 8; kind++) {
            for (int i = 0; i < figures.length; i++) {
                x.keep(5, 1, kind, figures[i]);
                Check.due("toss of kind " + kind + ", figure " + figures[i], x.toss(5), wants[kind][i]);
                Check.due("and again", x.toss(5), wants[kind][i]);
            }
        }
        Check.due("toss(-1)", x.toss(-1), -1);
        Check.due("toss(8)", x.toss(8), -1);
        Check.due("toss of nothing", x.toss(0), -11);
        x.row(0, 0, 0);
        Check.due("toss of a row", x.toss(0), -12);
    }
}
