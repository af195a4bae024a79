import java.lang.management.ManagementFactory;

/**
 * All calls of one run live in one room of 7.3 million fields and elements. An element takes a byte at
 * least, so what 512 calls of one sort take in bytes is held against much less than that.
 */
public final class RoomTest {
    private static final int CALLS = 512;
    private static final long ROOM = 1000000;
    private static final String DAY =
        "t0203;t0302;t0402;t0511;p0004020;p1904030;p2404030;p3004021;p4513030;p5713031;p6412030;p7014022;";

    private interface Call {
        void on(SlowerForTheLate x);
    }

    public static void main(String[] args) {
        room("came", x -> x.came(1, 90, 0));
        room("later", x -> x.later(3, 0));
        room("bestStart", x -> x.bestStart(0));
        room("bestGap", x -> x.bestGap());
        room("two", x -> x.two(0, 1));
        room("whose", x -> x.whose(3));
        room("mornings", x -> x.mornings(20, 7, 0));
        room("fate", x -> x.fate(0, 0));
        room("restore", x -> {
            x.image();
            x.restore();
        });
        room("day", x -> {
            x.row(0, 0, 0);
            x.day(0);
            for (int t = x.count(0); t > 0; t--) {
                x.leaves(0);
            }
            x.day(6);
        });
        room("row", x -> x.row(0, 2, 100));
        room("keep", x -> x.keep(0, 1, 6, 5));
        room("toss", x -> x.toss(5));
        room("element", x -> Check.answer(() -> x.element(9, 9)));
        Check.end();
    }

    private static void room(String of, Call call) {
        SlowerForTheLate x = Check.of(DAY);
        x.keep(5, 1, 6, 5);
        Check.write(x, 6, DAY.substring(24));
        call.on(x);
        long before = bytes();
        for (int k = 0; k < CALLS; k++) {
            call.on(x);
        }
        long taken = bytes() - before;
        if (taken > ROOM) {
            Check.due("bytes that " + CALLS + " calls of " + of + " take", taken, ROOM);
        } else {
            Check.due(of, 0, 0);
        }
    }

    private static long bytes() {
        return ((com.sun.management.ThreadMXBean) ManagementFactory.getThreadMXBean()).getCurrentThreadAllocatedBytes();
    }
}
