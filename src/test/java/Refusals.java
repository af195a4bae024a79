import java.util.function.Supplier;
import java.util.function.ToLongFunction;

/** What tests of refused calls share: objects that hold something of everything, and what can be seen of them. */
final class Refusals {
    static final int LEAST = Integer.MIN_VALUE;
    static final int MOST = Integer.MAX_VALUE;
    /** -1 of differences and of longs. */
    static final int WIDE = -1000000001;

    /** The sentence that all refusals have in common. */
    static final String NOTHING_CHANGES =
        "REFUSALS (answers; nothing changes): -1 no such one, a number out of its range; -2 there is no room; -3 it is not as it "
        + "must be; -4 none.";

    // what sample() has on its shelves
    static final int NOTHING = 0;
    static final int ONE = 1;
    static final int BYTES = 2;
    static final int SHORTS = 3;
    static final int INTS = 4;
    static final int TEXT = 5;

    private Refusals() {
    }

    /** What lies just outside of a range, and as far outside as can be. */
    static int[] outside(int least, int most) {
        return new int[] {least - 1, most + 1, LEAST, MOST};
    }

    /** Two trains, one of them cancelled, three travellers, an image of less, and shelves as named above. */
    static SlowerForTheLate sample() {
        SlowerForTheLate x = Check.of("r007;t0202;p7923017;");
        x.image();
        Check.write(x, 7, "t0601;x1;l11;g07;s4;h3;p1104021;p3014022;");
        x.day(7);
        shelves(x);
        return x;
    }

    /** Four trains and eight travellers: there is room for no more. */
    static SlowerForTheLate crowded() {
        SlowerForTheLate x = Check.of("t0202;t0301;t0603;t0909;p0004020;p1114021;p2224022;p3334023;");
        Check.write(x, 7, "p4404024;p5513025;p6624026;p7734027;x1;");
        x.day(7);
        shelves(x);
        return x;
    }

    private static void shelves(SlowerForTheLate x) {
        x.keep(ONE, 1, 2, 3);
        Check.write(x, BYTES, 0, 1, 2, 3, 4, 5);
        Check.write(x, SHORTS, 1, 6, 7, 8);
        Check.write(x, INTS, 2, 9, 10);
        Check.write(x, TEXT, "s1;");
        x.keep(7, 0, 0, 0);
    }

    /** The sample with one text more, on shelf 6. */
    static SlowerForTheLate withText(String text) {
        SlowerForTheLate x = sample();
        Check.write(x, 6, text);
        return x;
    }

    /** The call is refused so, and nothing is otherwise than in an object that was not called. */
    static void refused(String call, Supplier<SlowerForTheLate> made, ToLongFunction<SlowerForTheLate> asked, long want) {
        SlowerForTheLate x = made.get();
        Check.due(call, Check.answer(() -> asked.applyAsLong(x)), want);
        Check.due(call + " changes nothing", told(x).equals(told(made.get())) ? 1 : 0, 1);
    }

    static void refused(String call, ToLongFunction<SlowerForTheLate> asked, long want) {
        refused(call, Refusals::sample, asked, want);
    }

    /** All that the face shows: the day as told, shelves, and the image at last. */
    static String told(SlowerForTheLate x) {
        StringBuilder sb = new StringBuilder();
        day(x, sb);
        for (int d = 0; d < 8; d++) {
            int shelf = d;
            sb.append(x.cost(d)).append(' ').append(x.toss(d)).append(':');
            for (int i = 0; i < 6; i++) {
                int place = i;
                sb.append(Check.answer(() -> x.element(shelf, place))).append(' ');
            }
        }
        sb.append(x.restore()).append('\n');
        day(x, sb);
        return sb.toString();
    }

    private static void day(SlowerForTheLate x, StringBuilder sb) {
        for (int what = 0; what < 8; what++) {
            sb.append(x.count(what)).append(' ');
        }
        for (int piece = 0; piece < 4; piece++) {
            int was = x.run(piece, 1);
            x.run(piece, was);
            sb.append(was).append(' ');
        }
        for (int train = 0; train < x.count(1); train++) {
            sb.append(x.about(train, 0)).append(' ').append(x.about(train, 1)).append(' ');
        }
        for (int t = 0; t < x.count(0); t++) {
            for (int what = 0; what < 5; what++) {
                sb.append(x.traveller(t, what)).append(' ');
            }
        }
        sb.append('\n');
    }
}
