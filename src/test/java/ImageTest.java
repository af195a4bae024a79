/** Promises 42 to 44: the image, and what is told. */
public final class ImageTest {
    public static void main(String[] args) {
        restores();
        isTakenAgain();
        leavesShelvesAlone();
        counts();
        Check.end();
    }

    private static void counts(String of, SlowerForTheLate x, int... wants) {
        for (int what = 0; what < wants.length; what++) {
            Check.due(of + ": count(" + what + ")", x.count(what), wants[what]);
        }
    }

    private static void person(String of, SlowerForTheLate x, int t, int... wants) {
        for (int what = 0; what < wants.length; what++) {
            Check.due(of + ": traveller(" + t + ", " + what + ")", x.traveller(t, what), wants[what]);
        }
    }

    private static void restores() {
        SlowerForTheLate x = Check.of("r007;r131;t0202;t0301;x1;l11;g07;s4;h3;p7924017;p1104021;");
        Check.due("none yet", x.restore(), -3);
        Check.due("image()", x.image(), 2);
        Check.write(x, 0, "r201;t0113;x0;x1;l12;g09;s1;h1;p0001000;");
        Check.due("day(0)", x.day(0), 9);
        x.leaves(0);
        x.base(0, 99);
        counts("changed", x, 2, 3, 1, 12, 9, 1, 1, 49);
        person("changed", x, 0, 1, 1, 0, 4, 99);
        Check.due("restore()", x.restore(), 2);
        counts("as it was", x, 2, 2, 2, 11, 7, 4, 3, 58);
        person("as it was", x, 0, 7, 9, 2, 4, 17);
        person("as it was", x, 1, 1, 1, 0, 4, 21);
        int[][] trains = {{20, 2, 0}, {30, 1, 1}};
        for (int train = 0; train < 2; train++) {
            for (int what = 0; what < 3; what++) {
                Check.due("about(" + train + ", " + what + ")", x.about(train, what), trains[train][what]);
            }
        }
        Check.due("run(0, 1)", x.run(0, 1), 7);
        Check.due("run(1, 1)", x.run(1, 1), 31);
        Check.due("run(2, 1)", x.run(2, 1), 10);
        x.cancels(0);
        x.base(1, 5);
        Check.due("restored once more", x.restore(), 2);
        counts("once more", x, 2, 2, 2, 11, 7, 4, 3, 58);
        person("once more", x, 1, 1, 1, 0, 4, 21);
    }

    private static void isTakenAgain() {
        SlowerForTheLate x = new SlowerForTheLate();
        Check.due("of a new object", x.image(), 0);
        x.train(20, 9);
        x.keep(0, 1, 3, 4);
        x.comes(0, 0, 4, 20);
        Check.due("another", x.image(), 1);
        x.leaves(0);
        Check.due("the other is there", x.restore(), 1);
        person("the other", x, 0, 3, 4, 0, 4, 20);
        SlowerForTheLate y = new SlowerForTheLate();
        y.image();
        y.train(20, 9);
        y.set(0, 1);
        Check.due("nobody", y.restore(), 0);
        counts("new again", y, 0, 0, 0, 10, 8, 5, 2, 40);
        SlowerForTheLate z = Check.of("t0209;p0001020;");
        z.image();
        z.whose(0);
        z.extra();
        z.cancel(0);
        z.mornings(3, 4, 0);
        z.leaves(0);
        Check.due("asked in between", z.restore(), 1);
        counts("asked in between", z, 1, 1, 0, 10, 8, 5, 2, 40);
        person("asked in between", z, 0, 0, 0, 0, 1, 20);
        Check.due("another object has none", new SlowerForTheLate().restore(), -3);
    }

    private static void leavesShelvesAlone() {
        SlowerForTheLate x = new SlowerForTheLate();
        x.row(1, 1, 2);
        x.put(1, 0, 5);
        x.keep(2, 1, 0, 0);
        x.image();
        x.put(1, 0, 6);
        x.keep(2, 1, 7, 0);
        x.keep(3, 1, 1, 0);
        x.restore();
        Check.due("the row's number stays", x.element(1, 0), 6);
        Check.due("the other traveller stays", x.cost(2), 10);
        Check.due("what came stays", x.cost(3), 8);
    }

    private static void counts() {
        SlowerForTheLate x = Check.of("t0000;t0000;t0000;t0000;x3;x1;r001;r102;r204;r308;p0001000;");
        counts("told", x, 1, 4, 10, 10, 8, 5, 2, 15);
        for (int what : new int[] {-1, 8, Integer.MIN_VALUE, Integer.MAX_VALUE}) {
            Check.due("count(" + what + ")", x.count(what), -1);
        }
    }
}
