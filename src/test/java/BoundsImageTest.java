/** Promises 42 to 44: each sentence of the document that names a bound of the image and of what is told. */
public final class BoundsImageTest {
    private static final String IMAGE =
        "THE IMAGE: all that there is, but SHELVES (and THE IMAGE); RESTORED all is as it was then.";
    private static final String STAY = "when THE IMAGE is RESTORED, SHELVES stay as they are.";
    private static final String COUNT =
        "0 TRAVELLERS, 1 TRAINS, 2 CANCELLED ones (bits), 3 LATE, 4 GAP, 5 SLOW, 6 HALT, 7 all RUN; -1 for others.";

    public static void main(String[] args) {
        Sentences.run(BoundsImageTest.class);
    }

    private static void counts(SlowerForTheLate x, int... wants) {
        for (int what = 0; what < wants.length; what++) {
            Check.due("count(" + what + ")", x.count(what), wants[what]);
        }
    }

    private static void text(SlowerForTheLate x, String text) {
        Check.write(x, 7, text);
        Check.due("day of " + text, x.day(7), text.length() - text.replace(";", "").length());
    }

    // ---- promise 42: image

    @Keeps(promise = 42, sentence = "THE IMAGE is taken: how many TRAVELLERS.")
    static void p42_ofNobodyAndOfEight() {
        Check.due("nobody", new SlowerForTheLate().image(), 0);
        Check.due("eight", Refusals.crowded().image(), 8);
    }

    @Keeps(promise = 42, sentence = IMAGE)
    static void p42_takenAgain_theOtherIsGone() {
        SlowerForTheLate x = new SlowerForTheLate();
        x.image();
        text(x, "t0209;p0001020;");
        Check.due("another", x.image(), 1);
        x.leaves(0);
        Check.due("the other", x.restore(), 1);
        counts(x, 1, 1);
        SlowerForTheLate y = Refusals.crowded();
        y.image();
        for (int left = 7; left >= 0; left--) {
            y.leaves(0);
        }
        Check.due("of nobody", y.image(), 0);
        Check.due("nobody", y.restore(), 0);
    }

    @Keeps(promise = 42, sentence = IMAGE)
    static void p42_changesNothing() {
        SlowerForTheLate x = Check.of("r007;t0202;x0;p7923017;");
        x.image();
        counts(x, 1, 1, 1, 10, 8, 5, 2, 37);
        Check.due("BASE", x.traveller(0, 4), 17);
    }

    // ---- promise 43: restore

    @Keeps(promise = 43, sentence = "THE IMAGE is RESTORED: how many TRAVELLERS. -3 there is none.")
    static void p43_thereIsNone() {
        Check.due("a new object", new SlowerForTheLate().restore(), -3);
        Refusals.refused("eight and none", Refusals::crowded, SlowerForTheLate::restore, -3);
        SlowerForTheLate x = new SlowerForTheLate();
        x.restore();
        Check.due("again", x.restore(), -3);
        x.image();
        Check.due("then", x.restore(), 0);
    }

    @Keeps(promise = 43, sentence = IMAGE)
    static void p43_fromNobodyToEightAndBack() {
        SlowerForTheLate x = new SlowerForTheLate();
        x.image();
        text(x, "t0001;t0000;t0000;t3009;x3;x0;l30;g30;s9;h9;r060;");
        text(x, "p0001020;".repeat(8));
        Check.due("nobody", x.restore(), 0);
        counts(x, 0, 0, 0, 10, 8, 5, 2, 40);
        Check.due("no TRAINS", x.about(0, 0), -1);
        Check.due("no TRAVELLERS", x.traveller(0, 0), -1);
        SlowerForTheLate y = Refusals.crowded();
        y.image();
        for (int left = 7; left >= 0; left--) {
            y.leaves(0);
        }
        y.cancels(0);
        y.cancels(1);
        Check.due("eight", y.restore(), 8);
        counts(y, 8, 4, 2);
        for (int t = 0; t < 8; t++) {
            Check.due("KIND of " + t, y.traveller(t, 0), t);
            Check.due("BASE of " + t, y.traveller(t, 4), 20 + t);
        }
        Check.due("there is no room", y.train(0, 0), -2);
    }

    @Keeps(promise = 43, sentence = IMAGE)
    static void p43_restoredTwice() {
        SlowerForTheLate x = Check.of("t0209;p0001020;");
        x.image();
        for (int time = 0; time < 2; time++) {
            x.base(0, 300);
            x.cancels(0);
            x.run(3, 60);
            x.set(3, 9);
            Check.due("RESTORED", x.restore(), 1);
            counts(x, 1, 1, 0, 10, 8, 5, 2, 40);
            Check.due("BASE", x.traveller(0, 4), 20);
        }
    }

    @Keeps(promise = 43, sentence = STAY)
    static void p43_shelvesStay() {
        SlowerForTheLate x = new SlowerForTheLate();
        x.row(1, 1, 2);
        x.keep(2, 1, 0, 0);
        x.image();
        x.put(1, 0, 6);
        x.keep(2, 0, 0, 0);
        x.keep(3, 1, 1, 0);
        x.restore();
        Check.due("what was put", x.element(1, 0), 6);
        Check.due("nothing", x.cost(2), -11);
        Check.due("what came", x.cost(3), 8);
    }

    // ---- promise 44: count

    @Keeps(promise = 44, sentence = COUNT)
    static void p44_others() {
        for (int what : Refusals.outside(0, 7)) {
            Refusals.refused("count(" + what + ")", x -> x.count(what), -1);
        }
    }

    @Keeps(promise = 44, sentence = COUNT)
    static void p44_allFourCancelled() {
        SlowerForTheLate x = Check.of("t0000;t0000;t0000;t0000;");
        Check.due("none", x.count(2), 0);
        int[] bits = {8, 12, 14, 15};
        for (int train = 3; train >= 0; train--) {
            x.cancels(train);
            Check.due("down to " + train, x.count(2), bits[3 - train]);
        }
    }

    @Keeps(promise = 44, sentence = COUNT)
    static void p44_theLeastAndTheMost() {
        SlowerForTheLate least = Check.of("l00;g01;s0;h0;r001;r101;r201;r301;");
        counts(least, 0, 0, 0, 0, 1, 0, 0, 4);
        SlowerForTheLate most = Check.of("l30;g30;s9;h9;r060;r160;r260;r360;t0000;t0000;t0000;t0000;");
        text(most, "p0001000;".repeat(8));
        counts(most, 8, 4, 0, 30, 30, 9, 9, 240);
    }
}
