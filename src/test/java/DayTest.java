/** Promises 14 to 18: who gets on where, who has missed what, who is pushed back, who is stranded. */
public final class DayTest {
    /** START 20, one SEAT: one on each of the three, one too late for all. */
    static final String ONE_SEAT = "t0201;p0004020;p0002020;p0004031;p0004030;";

    public static void main(String[] args) {
        fates();
        whens();
        sums();
        aboards();
        fullests();
        trainsInTurn();
        depthsInTurn();
        overtaken();
        offAheadOfOn();
        pushing();
        howLateIsLate();
        cancelledOnes();
        manners();
        refusals();
        Check.end();
    }

    private static void fate(String of, SlowerForTheLate x, int t, int... wants) {
        for (int what = 0; what < wants.length; what++) {
            Check.due(of + ": fate(" + t + ", " + what + ")", x.fate(t, what), wants[what]);
        }
    }

    /** Stranded: how many it has missed, how often it was pushed. */
    private static void stranded(String of, SlowerForTheLate x, int t, int missed, int pushed) {
        fate(of, x, t, 0, -4, -4, -4, -4, -4, missed, pushed);
    }

    private static void fates() {
        SlowerForTheLate x = Check.of(ONE_SEAT);
        fate("one seat", x, 0, 1, 0, 0, 20, 60, 4, 0, 0);
        fate("one seat", x, 1, 1, 0, 1, 28, 60, 2, 1, 1);
        stranded("one seat", x, 2, 0, 0);
        fate("one seat", x, 3, 1, 0, 2, 36, 118, 4, 2, 0);
    }

    private static void whens() {
        SlowerForTheLate x = Check.of(ONE_SEAT);
        // the second halts at stops 0 and 2, the third at stop 0, the first never
        int[][] wants = {{20, 30, 40, 50, 60}, {28, 45, 60, 77, 92}, {36, 58, 78, 98, 118}};
        for (int depth = 0; depth < 3; depth++) {
            for (int stop = 0; stop < 5; stop++) {
                Check.due("when(0, " + depth + ", " + stop + ")", x.when(0, depth, stop), wants[depth][stop]);
            }
        }
        SlowerForTheLate cut = Check.of("t0050;t1000;r003;r107;r201;r360;s7;g11;x1;");
        // 3, 7, 1, 60 and 7 by 10 of that, once and twice, cut
        int[][] rides = {{3, 7, 1, 60}, {5, 11, 1, 102}, {7, 16, 2, 144}};
        for (int train = 0; train < 2; train++) {
            for (int depth = 0; depth < 3; depth++) {
                int minute = 5 + 95 * train + 11 * depth;
                for (int stop = 0; stop < 5; stop++) {
                    Check.due("cut when(" + train + ", " + depth + ", " + stop + ")", cut.when(train, depth, stop), minute);
                    minute += stop < 4 ? rides[depth][stop] : 0;
                }
            }
        }
    }

    private static void sums() {
        SlowerForTheLate x = Check.of(ONE_SEAT);
        int[] wants = {3, 1, 3, 14, 6, 118};
        for (int what = 0; what < 6; what++) {
            Check.due("sums(" + what + ")", x.sums(what), wants[what]);
        }
        // stranded behind three that are missed: all three count
        SlowerForTheLate full = Check.of("t0200;p0004020;p3901020;");
        int[] none = {0, 2, 6, 0, 0, 0};
        for (int what = 0; what < 6; what++) {
            Check.due("no seats: sums(" + what + ")", full.sums(what), none[what]);
        }
        // all come at 36 and get the third: parent 8, lover 3, staff 0
        SlowerForTheLate thirds = Check.of("t0209;l30;p7004036;p3004034;p4004039;");
        Check.due("refunds of the third", thirds.sums(4), 11);
        Check.due("waited", thirds.sums(3), 0);
        SlowerForTheLate first = Check.of("t0209;p0001013;p0002015;");
        Check.due("all waited", first.sums(3), 12);
        // who has left counts no more
        SlowerForTheLate left = Check.of("t0202;p0001015;p7004019;p0004023;");
        left.sums(0);
        Check.due("two and one places", left.fullest(0, 0) * 10 + left.fullest(0, 1), 12);
        left.leaves(2);
        left.leaves(1);
        int[] alone = {1, 0, 0, 5, 0, 30};
        for (int what = 0; what < 6; what++) {
            Check.due("who has left: sums(" + what + ")", left.sums(what), alone[what]);
        }
        Check.due("who has left: worth()", left.worth(), 30);
        Check.due("who has left: fullest(0, 0)", left.fullest(0, 0), 1);
        Check.due("who has left: fullest(0, 1)", left.fullest(0, 1), 0);
    }

    private static void aboards() {
        SlowerForTheLate x = Check.of(ONE_SEAT);
        int[][] wants = {{1, 1, 1, 1, 0}, {2, 2, 0, 0, 0}, {8, 8, 8, 8, 0}};
        for (int depth = 0; depth < 3; depth++) {
            for (int stop = 0; stop < 5; stop++) {
                Check.due("aboard(0, " + depth + ", " + stop + ")", x.aboard(0, depth, stop), wants[depth][stop]);
            }
        }
        SlowerForTheLate many = Check.of("t0009;t0009;p0001000;p0013000;p5012000;p7024000;");
        int[] bits = {1, 6, 14, 8, 0};
        for (int stop = 0; stop < 5; stop++) {
            Check.due("many aboard at " + stop, many.aboard(0, 0, stop), bits[stop]);
            Check.due("none aboard at " + stop, many.aboard(1, 0, stop), 0);
        }
    }

    private static void fullests() {
        SlowerForTheLate x = Check.of(ONE_SEAT);
        for (int depth = 0; depth < 3; depth++) {
            Check.due("fullest(0, " + depth + ")", x.fullest(0, depth), 1);
        }
        SlowerForTheLate many = Check.of("t0009;t0009;p0001000;p0013000;p5012000;p7024000;");
        Check.due("with a parent", many.fullest(0, 0), 4);
        Check.due("second", many.fullest(0, 1), 0);
        Check.due("the other", many.fullest(1, 0), 0);
    }

    private static void trainsInTurn() {
        SlowerForTheLate x = Check.of("t0201;t0201;p0004020;p0004020;");
        fate("same minute", x, 0, 1, 0, 0, 20, 60, 4, 0, 0);
        fate("same minute", x, 1, 1, 1, 0, 20, 60, 4, 1, 1);
        SlowerForTheLate earlier = Check.of("t0211;t0201;p0004020;p0004020;");
        fate("earlier", earlier, 0, 1, 1, 0, 20, 60, 4, 0, 0);
        fate("earlier", earlier, 1, 1, 0, 0, 21, 61, 4, 1, 1);
        // the second of train 0 at 28 with the first of train 1: train 0 is asked about first
        SlowerForTheLate mixed = Check.of("t0209;t0289;p0001021;");
        fate("second ahead", mixed, 0, 1, 0, 1, 28, 45, 1, 1, 0);
        SlowerForTheLate turned = Check.of("t0289;t0209;p0001021;");
        fate("first ahead", turned, 0, 1, 0, 0, 28, 38, 1, 1, 0);
    }

    private static void depthsInTurn() {
        // second and third are at stop 1 at 32: the second is first, is full, and so is missed
        SlowerForTheLate x = Check.of("t0201;g01;s0;h1;p0004021;p0012031;");
        fate("same minute", x, 0, 1, 0, 1, 21, 62, 4, 1, 0);
        Check.due("second at stop 1", x.when(0, 1, 1), 32);
        Check.due("third at stop 1", x.when(0, 2, 1), 32);
        fate("same minute", x, 1, 1, 0, 2, 32, 43, 2, 2, 1);
    }

    private static void overtaken() {
        // the third is at stop 1 ahead of the second, when nobody has missed the second there
        SlowerForTheLate x = Check.of("t0209;g01;s0;h9;p0004021;p0012031;");
        Check.due("third at stop 1", x.when(0, 2, 1), 32);
        Check.due("second at stop 1", x.when(0, 1, 1), 40);
        fate("overtaken", x, 1, 1, 0, 1, 40, 59, 2, 1, 0);
        // full at 40, too: nobody else comes
        SlowerForTheLate full = Check.of("t0201;g01;s0;h9;p0004021;p0012031;");
        stranded("overtaken and full", full, 1, 2, 1);
    }

    private static void offAheadOfOn() {
        SlowerForTheLate x = Check.of("t0201;p0001020;p0012030;p0023040;");
        fate("one off, one on", x, 1, 1, 0, 0, 30, 40, 2, 0, 0);
        fate("one off, one on", x, 2, 1, 0, 0, 40, 50, 3, 0, 0);
        Check.due("one at once", x.fullest(0, 0), 1);
        // a sleeper stays on to the next stop, so that there is no seat at stop 1
        SlowerForTheLate sleeper = Check.of("t0201;p5001020;p0012030;p0023040;");
        fate("sleeper", sleeper, 0, 1, 0, 0, 20, 40, 2, 0, 0);
        fate("sleeper", sleeper, 1, 1, 0, 1, 43, 60, 2, 1, 1);
        fate("sleeper", sleeper, 2, 1, 0, 0, 40, 50, 3, 0, 0);
    }

    private static void pushing() {
        // rank: staff, runner, walker, lover, though the lover comes first
        SlowerForTheLate x = Check.of("t0201;t0211;p3004001;p0004010;p1004020;p4004020;");
        fate("staff", x, 3, 1, 0, 0, 20, 60, 4, 0, 0);
        fate("runner", x, 2, 1, 1, 0, 21, 61, 4, 1, 1);
        fate("walker", x, 1, 1, 0, 1, 28, 90, 4, 2, 2);
        fate("lover", x, 0, 1, 1, 1, 29, 91, 4, 3, 3);
        // of one rank who comes first
        SlowerForTheLate first = Check.of("t0201;p0004019;p2004018;p0004017;");
        Check.due("comes first", first.fate(2, 2), 0);
        Check.due("comes second", first.fate(1, 2), 1);
        Check.due("comes third", first.fate(0, 2), 2);
        // of one minute the least number
        SlowerForTheLate number = Check.of("t0201;p2204018;p0004020;p6304017;p5004020;");
        Check.due("least number", number.fate(0, 2), 0);
        fate("next number", number, 1, 1, 0, 1, 28, 90, 4, 1, 1);
        stranded("aims at the second, full by then", number, 2, 3, 1);
        fate("greatest number", number, 3, 1, 0, 2, 36, 118, 4, 2, 2);
        // a parent is pushed where one seat is left, and one behind it takes that
        SlowerForTheLate parent = Check.of("t0202;p0004010;p7004011;p0004012;");
        fate("parent", parent, 1, 1, 0, 1, 28, 90, 4, 1, 1);
        fate("behind it", parent, 2, 1, 0, 0, 20, 60, 4, 0, 0);
        stranded("parent and one seat", Check.of("t0201;p7004011;"), 0, 3, 3);
        fate("not yet there: not pushed", Check.of("t0200;t0409;p0001025;"), 0, 1, 1, 0, 40, 50, 1, 3, 2);
    }

    private static void howLateIsLate() {
        // the minute itself is in time
        fate("in time", Check.of("t0201;l00;p0001020;"), 0, 1, 0, 0, 20, 30, 1, 0, 0);
        stranded("a minute late, law 0", Check.of("t0209;l00;p0001021;"), 0, 0, 0);
        // by kinds, figure 4, LATE 3: late by LATE and EXCUSE, and by one more
        int[] excuses = {0, 1, 4, 9, 2, 2, 3, 6};
        int[] shifts = {0, -4, 4, 6, -7, 0, 4, 0};
        for (int kind = 0; kind < 8; kind++) {
            int late = 3 + excuses[kind];
            for (int more = 0; more < 2; more++) {
                int base = 50 + late + more - shifts[kind];
                SlowerForTheLate x = Check.of("t0509;l03;g30;p" + kind + "4010" + base + ";");
                Check.due("kind " + kind + " arrives, " + more + " beyond", x.fate(0, 0), 1 - more);
                Check.due("kind " + kind + " missed, " + more + " beyond", x.fate(0, 6), 1 - more);
            }
        }
        // late for the second, too: then the third
        fate("third", Check.of("t0209;g02;p0001023;"), 0, 1, 0, 2, 24, 46, 1, 2, 0);
        // too late for the first, though the second is still to come
        stranded("second alone will not do", Check.of("t0209;l04;g05;p0001025;"), 0, 0, 0);
        // who missed the third has it as missed, too
        stranded("three missed", Check.of("t0209;l10;g01;p0001025;"), 0, 3, 0);
    }

    private static void cancelledOnes() {
        // there, or late: the first is missed all the same, and nobody is pushed
        SlowerForTheLate x = Check.of("t0209;x0;p0001020;p0001021;p0001031;p0001000;");
        fate("there", x, 0, 1, 0, 1, 28, 45, 1, 1, 0);
        fate("late", x, 1, 1, 0, 1, 28, 45, 1, 1, 0);
        stranded("too late", x, 2, 0, 0);
        fate("long there", x, 3, 1, 0, 1, 28, 45, 1, 1, 0);
        Check.due("it is told still", x.when(0, 0, 4), 60);
        Check.due("nobody is on it", x.fullest(0, 0), 0);
        SlowerForTheLate other = Check.of("t0209;t0299;x0;g30;p0001020;");
        fate("another comes first", other, 0, 1, 1, 0, 29, 39, 1, 1, 0);
    }

    private static void manners() {
        // aims at the second: in time for the first, yet misses it
        fate("aimer", Check.of("t0209;p6304010;"), 0, 1, 0, 1, 28, 90, 4, 1, 0);
        fate("aimer at thirds", Check.of("t0209;p6604010;"), 0, 1, 0, 2, 36, 118, 4, 2, 0);
        stranded("aimer at what none runs", Check.of("t0209;p6904010;"), 0, 3, 0);
        stranded("aimer at firsts, late", Check.of("t0209;p6004021;"), 0, 3, 0);
        // pushed where it aims only
        stranded("aimer and no seats", Check.of("t0200;p6304010;"), 0, 3, 1);
        fate("sleeper to the end", Check.of("t0209;p5024010;"), 0, 1, 0, 0, 40, 60, 4, 0, 0);
        // gets on once: nobody who has got off comes again
        SlowerForTheLate once = Check.of("t0209;t0409;p0001020;");
        fate("once", once, 0, 1, 0, 0, 20, 30, 1, 0, 0);
        Check.due("not on the other", once.fullest(1, 0), 0);
        // firsts do not halt, halts of 0 are none
        Check.due("no halt of 0", Check.of("t0209;h0;p0001021;").when(0, 1, 2), 58);
        Check.due("halts of 9 where one is on and off", Check.of("t0209;h9;p0001021;").when(0, 1, 2), 76);
        Check.due("no halt where nobody moves", Check.of("t0209;h9;p0001021;").when(0, 1, 4), 106);
        Check.due("one halt for several", Check.of("t0209;h9;p0001021;p0001022;p0012040;").when(0, 1, 2), 76);
    }

    private static void refusals() {
        SlowerForTheLate x = Check.of(ONE_SEAT);
        int[] odd = {-1, Integer.MIN_VALUE, Integer.MAX_VALUE};
        for (int o : odd) {
            Check.due("fate of none", x.fate(o, 0), -1);
            Check.due("fate of nothing", x.fate(0, o), -1);
            Check.due("when of none", x.when(o, 0, 0), -1);
            Check.due("when of no depth", x.when(0, o, 0), -1);
            Check.due("when at no stop", x.when(0, 0, o), -1);
            Check.due("sums of nothing", x.sums(o), -1);
            Check.due("aboard of none", x.aboard(o, 0, 0), -1);
            Check.due("aboard of no depth", x.aboard(0, o, 0), -1);
            Check.due("aboard at no stop", x.aboard(0, 0, o), -1);
            Check.due("fullest of none", x.fullest(o, 0), -1);
            Check.due("fullest of no depth", x.fullest(0, o), -1);
        }
        Check.due("fate(4, 0)", x.fate(4, 0), -1);
        Check.due("fate(0, 8)", x.fate(0, 8), -1);
        Check.due("no such one ahead of none", x.fate(2, 8), -1);
        Check.due("when(1, 0, 0)", x.when(1, 0, 0), -1);
        Check.due("when(0, 3, 0)", x.when(0, 3, 0), -1);
        Check.due("when(0, 0, 5)", x.when(0, 0, 5), -1);
        Check.due("sums(6)", x.sums(6), -1);
        Check.due("aboard(1, 0, 0)", x.aboard(1, 0, 0), -1);
        Check.due("aboard(0, 3, 0)", x.aboard(0, 3, 0), -1);
        Check.due("aboard(0, 0, 5)", x.aboard(0, 0, 5), -1);
        Check.due("fullest(1, 0)", x.fullest(1, 0), -1);
        Check.due("fullest(0, 3)", x.fullest(0, 3), -1);
    }
}
