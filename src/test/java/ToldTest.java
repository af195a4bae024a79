/** Promises 1 and 3 to 13: a new object, and the day as told call by call. */
public final class ToldTest {
    private static final int LEAST = Integer.MIN_VALUE;
    private static final int MOST = Integer.MAX_VALUE;

    public static void main(String[] args) {
        newObject();
        travellers();
        takes();
        refunds();
        comes();
        leaves();
        bases();
        trains();
        abouts();
        cancels();
        runs();
        sets();
        Check.end();
    }

    private static void newObject() {
        SlowerForTheLate x = new SlowerForTheLate();
        int[] counts = {0, 0, 0, 10, 8, 5, 2, 40};
        for (int what = 0; what < counts.length; what++) {
            Check.due("count(" + what + ")", x.count(what), counts[what]);
        }
        for (int what = 0; what < 6; what++) {
            Check.due("sums(" + what + ")", x.sums(what), 0);
        }
        for (int d = 0; d < 8; d++) {
            Check.due("cost(" + d + ")", x.cost(d), -11);
        }
        Check.due("no traveller", x.traveller(0, 0), -1);
        Check.due("no train", x.about(0, 0), -1);
        Check.due("no image", x.restore(), -3);
        Check.due("worth()", x.worth(), 0);
        Check.due("strike()", x.strike(), 0);
        Check.due("another object has its own", new SlowerForTheLate().train(1, 1), 0);
        Check.due("this one has none of that", x.count(1), 0);
    }

    /** Travellers of all kinds with one figure, all FROM 1 TO 2 with one BASE. */
    private static SlowerForTheLate kinds(int figure, int base) {
        SlowerForTheLate x = new SlowerForTheLate();
        for (int kind = 0; kind < 8; kind++) {
            x.keep(0, 1, kind, figure);
            Check.due("number of kind " + kind, x.comes(0, 1, 2, base), kind);
        }
        return x;
    }

    private static void all(String of, SlowerForTheLate x, int what, int... wants) {
        for (int t = 0; t < wants.length; t++) {
            Check.due(of + ": traveller(" + t + ", " + what + ")", x.traveller(t, what), wants[t]);
        }
    }

    private static void travellers() {
        SlowerForTheLate four = kinds(4, 10);
        all("figure 4", four, 0, 0, 1, 2, 3, 4, 5, 6, 7);
        all("figure 4", four, 1, 4, 4, 4, 4, 4, 4, 4, 4);
        all("figure 4", four, 2, 1, 1, 1, 1, 1, 1, 1, 1);
        all("figure 4", four, 3, 2, 2, 2, 2, 2, 2, 2, 2);
        all("figure 4", four, 4, 10, 10, 10, 10, 10, 10, 10, 10);
        all("figure 4", four, 5, 10, 6, 14, 16, 3, 10, 14, 10);
        all("figure 4", four, 6, 0, 1, 4, 9, 2, 2, 3, 6);
        all("figure 4", four, 7, 2, 1, 2, 3, 0, 2, 2, 2);
        all("figure 4", four, 8, 1, 1, 1, 1, 1, 1, 1, 2);
        all("figure 4", four, 9, 2, 2, 2, 2, 2, 3, 2, 2);
        SlowerForTheLate nine = kinds(9, 2);
        all("figure 9", nine, 5, 2, 0, 11, 13, 0, 2, 11, 2);
        all("figure 9", nine, 6, 0, 1, 9, 14, 2, 4, 8, 6);
        all("figure 9", nine, 7, 2, 1, 2, 3, 0, 2, 2, 2);
        all("figure 9, base 10", kinds(9, 10), 5, 10, 1, 19, 21, 0, 10, 19, 10);
        all("figure 9, base 300", kinds(9, 300), 5, 300, 291, 309, 311, 288, 300, 309, 300);
        SlowerForTheLate none = kinds(0, 4);
        all("figure 0", none, 5, 4, 4, 4, 6, 1, 4, 4, 4);
        all("figure 0", none, 6, 0, 1, 0, 5, 2, 0, 0, 6);
        SlowerForTheLate farther = Check.of("p5014000;p5013000;p5001000;p0014000;");
        all("off", farther, 9, 4, 4, 2, 4);
        for (int t : new int[] {-1, 8, LEAST, MOST}) {
            Check.due("traveller(" + t + ", 0)", four.traveller(t, 0), -1);
        }
        for (int what : new int[] {-1, 10, LEAST, MOST}) {
            Check.due("traveller(0, " + what + ")", four.traveller(0, what), -1);
        }
        Check.due("one beyond those that are there", farther.traveller(4, 0), -1);
    }

    private static void takes() {
        SlowerForTheLate x = kinds(4, 10);
        for (int t = 0; t < 8; t++) {
            for (int d = 0; d < 3; d++) {
                Check.due("takes(" + t + ", " + d + ")", x.takes(t, d), t == 6 && d != 1 ? 0 : 1);
            }
        }
        SlowerForTheLate aimers = Check.of("p6001000;p6201000;p6301000;p6501000;p6601000;p6801000;p6901000;");
        int[] aims = {0, 0, 1, 1, 2, 2, 3};
        for (int t = 0; t < aims.length; t++) {
            for (int d = 0; d < 3; d++) {
                Check.due("aimer takes(" + t + ", " + d + ")", aimers.takes(t, d), aims[t] == d ? 1 : 0);
            }
        }
        Check.due("takes(8, 0)", x.takes(8, 0), -1);
        Check.due("takes(-1, 0)", x.takes(-1, 0), -1);
        Check.due("takes(0, -1)", x.takes(0, -1), -1);
        Check.due("takes(0, 3)", x.takes(0, 3), -1);
        Check.due("takes(6, 3)", x.takes(6, 3), -1);
    }

    private static void refunds() {
        SlowerForTheLate x = kinds(4, 10);
        int[][] wants = {{0, 2, 4}, {0, 2, 4}, {0, 1, 3}, {0, 1, 3}, {0, 0, 0}, {0, 2, 4}, {0, 1, 3}, {0, 4, 8}};
        for (int t = 0; t < 8; t++) {
            for (int d = 0; d < 3; d++) {
                Check.due("refund(" + t + ", " + d + ")", x.refund(t, d), wants[t][d]);
            }
        }
        Check.due("refund(8, 0)", x.refund(8, 0), -1);
        Check.due("refund(-1, 0)", x.refund(-1, 0), -1);
        Check.due("refund(0, -1)", x.refund(0, -1), -1);
        Check.due("refund(0, 3)", x.refund(0, 3), -1);
        Check.due("refund(4, 3)", x.refund(4, 3), -1);
    }

    private static void comes() {
        SlowerForTheLate x = new SlowerForTheLate();
        Check.due("nothing", x.comes(2, 0, 1, 0), -11);
        Check.due("nothing, and not below", x.comes(2, 1, 1, 0), -11);
        Check.due("no stop ahead of nothing", x.comes(2, 0, 5, 0), -1);
        x.row(2, 0, 1);
        Check.due("a row", x.comes(2, 0, 1, 0), -12);
        Check.due("a row, and not below", x.comes(2, 2, 1, 0), -12);
        Check.due("no base ahead of a row", x.comes(2, 2, 1, 301), -1);
        x.keep(2, 1, 5, 7);
        int[][] bad = {
            {-1, 0, 1, 0}, {8, 0, 1, 0}, {LEAST, 0, 1, 0}, {2, -1, 1, 0}, {2, 5, 1, 0}, {2, MOST, 1, 0}, {2, 0, -1, 0},
            {2, 0, 5, 0}, {2, 0, LEAST, 0}, {2, 0, 1, -1}, {2, 0, 1, 301}, {2, 0, 1, MOST}};
        for (int[] b : bad) {
            Check.due("comes out of range", x.comes(b[0], b[1], b[2], b[3]), -1);
        }
        Check.due("same stop", x.comes(2, 4, 4, 0), -3);
        Check.due("same first stop", x.comes(2, 0, 0, 0), -3);
        Check.due("back", x.comes(2, 3, 1, 300), -3);
        Check.due("nobody came", x.count(0), 0);
        for (int t = 0; t < 8; t++) {
            Check.due("comes " + t, x.comes(2, t % 4, 4, 37 * t), t);
        }
        Check.due("no room", x.comes(2, 0, 1, 0), -2);
        Check.due("not below ahead of no room", x.comes(2, 1, 0, 0), -3);
        Check.due("a row ahead of no room", x.row(3, 0, 1) + x.comes(3, 0, 1, 0), -12);
        Check.due("no base ahead of no room", x.comes(2, 0, 1, 301), -1);
        Check.due("kind", x.traveller(7, 0), 5);
        Check.due("figure", x.traveller(7, 1), 7);
        Check.due("from", x.traveller(7, 2), 3);
        Check.due("to", x.traveller(7, 3), 4);
        Check.due("base", x.traveller(7, 4), 259);
        Check.due("it stays on the shelf", x.cost(2), 6);
        x.keep(2, 1, 1, 1);
        Check.due("what comes to the shelf then is another", x.traveller(7, 0), 5);
        Check.due("base 300", Check.of("s0;").count(0), 0);
    }

    private static void leaves() {
        SlowerForTheLate x = Check.of("p0101000;p1212011;p2323022;p3434033;");
        Check.due("leaves(-1)", x.leaves(-1), -1);
        Check.due("leaves(4)", x.leaves(4), -1);
        Check.due("leaves(least)", x.leaves(LEAST), -1);
        Check.due("leaves(1)", x.leaves(1), 3);
        all("behind it", x, 0, 0, 2, 3);
        all("behind it", x, 1, 1, 3, 4);
        all("behind it", x, 2, 0, 2, 3);
        all("behind it", x, 3, 1, 3, 4);
        all("behind it", x, 4, 0, 22, 33);
        Check.due("it is no more", x.traveller(3, 0), -1);
        Check.due("leaves(3)", x.leaves(3), -1);
        Check.due("leaves(2)", x.leaves(2), 2);
        Check.due("leaves(0)", x.leaves(0), 1);
        all("the last one", x, 0, 2);
        Check.due("leaves(0) again", x.leaves(0), 0);
        Check.due("leaves(0) with nobody", x.leaves(0), -1);
        SlowerForTheLate full = kinds(1, 1);
        Check.due("one of eight leaves", full.leaves(7), 7);
        Check.due("there is room again", full.comes(0, 0, 1, 0), 7);
        Check.due("the first of eight leaves", full.leaves(0), 7);
        all("eight", full, 0, 1, 2, 3, 4, 5, 6, 7);
    }

    private static void bases() {
        SlowerForTheLate x = Check.of("p0001007;p0001008;");
        Check.due("base(1, 300)", x.base(1, 300), 8);
        Check.due("base(1, 0)", x.base(1, 0), 300);
        Check.due("base(1, 301)", x.base(1, 301), -1);
        Check.due("base(1, -1)", x.base(1, -1), -1);
        Check.due("base(2, 5)", x.base(2, 5), -1);
        Check.due("base(-1, 5)", x.base(-1, 5), -1);
        Check.due("base(0, least)", x.base(0, LEAST), -1);
        Check.due("base is 0", x.traveller(1, 4), 0);
        Check.due("the other's is as it was", x.traveller(0, 4), 7);
    }

    private static void trains() {
        SlowerForTheLate x = new SlowerForTheLate();
        Check.due("start -1", x.train(-1, 0), -1);
        Check.due("start 301", x.train(301, 0), -1);
        Check.due("seats -1", x.train(0, -1), -1);
        Check.due("seats 10", x.train(0, 10), -1);
        Check.due("least, most", x.train(LEAST, MOST), -1);
        Check.due("first", x.train(0, 9), 0);
        Check.due("second", x.train(300, 0), 1);
        Check.due("third", x.train(7, 3), 2);
        Check.due("fourth", x.train(8, 4), 3);
        Check.due("no room", x.train(9, 5), -2);
        Check.due("a range ahead of no room", x.train(301, 5), -1);
        Check.due("seats ahead of no room", x.train(9, 10), -1);
        Check.due("how many", x.count(1), 4);
    }

    private static void abouts() {
        SlowerForTheLate x = Check.of("t3009;t0070;x1;");
        int[][] wants = {{300, 9, 0}, {7, 0, 1}};
        for (int train = 0; train < 2; train++) {
            for (int what = 0; what < 3; what++) {
                Check.due("about(" + train + ", " + what + ")", x.about(train, what), wants[train][what]);
            }
        }
        Check.due("about(2, 0)", x.about(2, 0), -1);
        Check.due("about(-1, 0)", x.about(-1, 0), -1);
        Check.due("about(0, 3)", x.about(0, 3), -1);
        Check.due("about(0, -1)", x.about(0, -1), -1);
        Check.due("about(most, least)", x.about(MOST, LEAST), -1);
    }

    private static void cancels() {
        SlowerForTheLate x = Check.of("t0009;t0009;t0009;");
        Check.due("cancels(2)", x.cancels(2), 1);
        Check.due("cancels(0)", x.cancels(0), 1);
        Check.due("bits", x.count(2), 5);
        Check.due("cancels(2) again", x.cancels(2), 0);
        Check.due("bits then", x.count(2), 1);
        Check.due("cancels(3)", x.cancels(3), -1);
        Check.due("cancels(-1)", x.cancels(-1), -1);
        Check.due("cancels(least)", x.cancels(LEAST), -1);
    }

    private static void runs() {
        SlowerForTheLate x = new SlowerForTheLate();
        Check.due("run(0, 60)", x.run(0, 60), 10);
        Check.due("run(3, 1)", x.run(3, 1), 10);
        Check.due("run(0, 2)", x.run(0, 2), 60);
        Check.due("run(3, 4)", x.run(3, 4), 1);
        Check.due("run(0, 0)", x.run(0, 0), -1);
        Check.due("run(0, 61)", x.run(0, 61), -1);
        Check.due("run(-1, 5)", x.run(-1, 5), -1);
        Check.due("run(4, 5)", x.run(4, 5), -1);
        Check.due("run(most, least)", x.run(MOST, LEAST), -1);
        Check.due("all", x.count(7), 26);
    }

    private static void sets() {
        SlowerForTheLate x = new SlowerForTheLate();
        int[] first = {10, 8, 5, 2};
        int[] least = {0, 1, 0, 0};
        int[] most = {30, 30, 9, 9};
        for (int what = 0; what < 4; what++) {
            Check.due("set to the least, " + what, x.set(what, least[what]), first[what]);
            Check.due("set to the most, " + what, x.set(what, most[what]), least[what]);
            Check.due("below the least, " + what, x.set(what, least[what] - 1), -1);
            Check.due("above the most, " + what, x.set(what, most[what] + 1), -1);
            Check.due("far below, " + what, x.set(what, LEAST), -1);
            Check.due("far above, " + what, x.set(what, MOST), -1);
            Check.due("count, " + what, x.count(what + 3), most[what]);
        }
        for (int what : new int[] {-1, 4, LEAST, MOST}) {
            Check.due("set(" + what + ", 5)", x.set(what, 5), -1);
        }
    }
}
