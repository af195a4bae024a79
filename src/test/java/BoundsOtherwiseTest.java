/** Promises 26 to 35: each sentence of the document that names a bound of trains otherwise. */
public final class BoundsOtherwiseTest {
    private static final String CANCEL =
        "CANCEL: how many more ARRIVE with a TRAIN CANCELLED (or not, if it is) (may be below 0).";
    private static final String WIDE = "Of differences (CANCEL, LAW) -1 is -1000000001; of longs likewise.";
    private static final String STRIKE = "STRIKE: how many ARRIVE if only FIRSTS run.";
    private static final String SNOW = "SNOW: the latest MINUTE one ARRIVES, if each RUN is n more (0 .. 30).";
    private static final String LAW = "LAW: how many more ARRIVE with LATE l than now;";
    private static final String BEST_LATE = "BEST LATE: that with most who ARRIVE, of several the least.";
    private static final String WORTH = "WORTH of a DAY: all MINUTES at which they ARRIVE (STRANDED 2000 each) together.";
    private static final String BEST =
        "BEST GAP (1 .. 30), BEST START of a TRAIN (20 less to 20 more, 0 to 300 held): by which that is least, of several "
        + "the least.";
    private static final String NEED = "NEED: the least SEATS (0 .. 9) of a TRAIN with which nobody is STRANDED; -4.";
    private static final String EXTRA =
        "EXTRA: one TRAIN more with 9 SEATS: the START (0, 10, .. 300) with the least WORTH, of several the least; -4 there "
        + "are 4.";

    /** Takes firsts alone. */
    private static final String FIRSTS_ALONE = "p6001020;";

    public static void main(String[] args) {
        Sentences.run(BoundsOtherwiseTest.class);
    }

    // ---- promise 26: cancel

    @Keeps(promise = 26, sentence = CANCEL)
    static void p26_below0() {
        Check.due("one fewer, which is no refusal", Check.of("t0209;" + FIRSTS_ALONE).cancel(0), -1);
        Check.due("all eight fewer", Check.of("t0209;" + FIRSTS_ALONE.repeat(8)).cancel(0), -8);
    }

    @Keeps(promise = 26, sentence = CANCEL)
    static void p26_orNotIfItIs() {
        Check.due("one more", Check.of("t0209;x0;" + FIRSTS_ALONE).cancel(0), 1);
        Check.due("all eight more", Check.of("t0209;x0;" + FIRSTS_ALONE.repeat(8)).cancel(0), 8);
        Check.due("as many", Check.of("t0209;x0;p0001020;").cancel(0), 0);
        Check.due("nobody", Check.of("t0209;").cancel(0), 0);
    }

    @Keeps(promise = 26, sentence = WIDE)
    static void p26_aDifferenceOfMinus1IsNoRefusal() {
        Check.due("one fewer", Check.of("t0209;" + FIRSTS_ALONE).cancel(0), -1);
        Check.due("no such one", Check.of("t0209;" + FIRSTS_ALONE).cancel(1), Refusals.WIDE);
    }

    @Keeps(promise = 26, sentence = "CANCEL. Refused as told.")
    static void p26_noSuchTrain() {
        for (int train : Refusals.outside(0, 1)) {
            Refusals.refused("cancel(" + train + ")", x -> x.cancel(train), Refusals.WIDE);
        }
        Refusals.refused("one beyond four", Refusals::crowded, x -> x.cancel(4), Refusals.WIDE);
        Check.due("of none", new SlowerForTheLate().cancel(0), Refusals.WIDE);
    }

    // ---- promise 27: strike

    @Keeps(promise = 27, sentence = STRIKE)
    static void p27_nobodyAndAllEight() {
        Check.due("a new object", new SlowerForTheLate().strike(), 0);
        Check.due("no TRAVELLERS", Check.of("t0209;").strike(), 0);
        Check.due("no TRAINS", Check.of("p0001020;").strike(), 0);
        Check.due("all eight", Check.of("t0209;" + "p0001020;".repeat(8)).strike(), 8);
    }

    @Keeps(promise = 27, sentence = STRIKE)
    static void p27_onlyFirsts_cancelledOnesStayCancelled() {
        Check.due("a minute late", Check.of("t0209;p0001021;").strike(), 0);
        Check.due("full", Check.of("t0201;p0001020;p0001020;").strike(), 1);
        Check.due("CANCELLED", Check.of("t0209;x0;p0001020;").strike(), 0);
        Check.due("the next first", Check.of("t0209;t0219;x0;p0001020;").strike(), 1);
    }

    // ---- promise 28: snow

    @Keeps(promise = 28, sentence = SNOW)
    static void p28_0And30() {
        Check.due("0 more", Check.of("t0209;p0004020;").snow(0), 60);
        Check.due("1 more", Check.of("t0209;p0004020;").snow(1), 64);
        Check.due("30 more", Check.of("t0209;p0004020;").snow(30), 180);
    }

    @Keeps(promise = 28, sentence = SNOW)
    static void p28_runsBeyond60() {
        Check.due("a first", Check.of("t0009;r060;r160;r260;r360;p0004000;").snow(30), 360);
        // 90 and 162 on each
        Check.due("a third", Check.of("t0009;g01;s9;h0;r060;r160;r260;r360;p0004002;").snow(30), 1010);
    }

    @Keeps(promise = 28, sentence = "all REFUNDS; the latest MINUTE one ARRIVES (0 nobody).")
    static void p28_nobody() {
        Check.due("no TRAVELLERS", Check.of("t0209;").snow(5), 0);
        Check.due("all STRANDED", Check.of("t0200;p0004020;").snow(5), 0);
    }

    @Keeps(promise = 28, sentence = "SNOW. -1.")
    static void p28_outOfRange() {
        for (int n : Refusals.outside(0, 30)) {
            Refusals.refused("snow(" + n + ")", x -> x.snow(n), -1);
        }
    }

    // ---- promise 29: law

    @Keeps(promise = 29, sentence = LAW)
    static void p29_0And30() {
        Check.due("0: one fewer, which is no refusal", Check.of("t0209;p0001021;").law(0), -1);
        Check.due("1", Check.of("t0209;p0001021;").law(1), 0);
        Check.due("29", Check.of("t0209;g30;p0001050;").law(29), 0);
        Check.due("30: one more", Check.of("t0209;g30;p0001050;").law(30), 1);
    }

    @Keeps(promise = 29, sentence = LAW)
    static void p29_thanNow() {
        Check.due("0, as now", Check.of("t0209;l00;p0001021;").law(0), 0);
        Check.due("30, as now", Check.of("t0209;l30;g30;p0001050;").law(30), 0);
        Check.due("eight fewer", Check.of("t0209;" + "p0001021;".repeat(8)).law(0), -8);
        Check.due("eight more", Check.of("t0209;l00;" + "p0001021;".repeat(8)).law(30), 8);
        Check.due("nobody", new SlowerForTheLate().law(0), 0);
    }

    @Keeps(promise = 29, sentence = WIDE)
    static void p29_aDifferenceOfMinus1IsNoRefusal() {
        Check.due("one fewer", Check.of("t0209;p0001021;").law(0), -1);
        Check.due("out of range", Check.of("t0209;p0001021;").law(-1), Refusals.WIDE);
        Check.due("out of range", Check.of("t0209;p0001021;").law(31), Refusals.WIDE);
    }

    @Keeps(promise = 29, sentence = "LAW. Refused as told.")
    static void p29_outOfRange() {
        for (int late : Refusals.outside(0, 30)) {
            Refusals.refused("law(" + late + ")", x -> x.law(late), Refusals.WIDE);
        }
    }

    // ---- promise 30: bestLate

    @Keeps(promise = 30, sentence = BEST_LATE)
    static void p30_30IsTried_31IsNot() {
        Check.due("29", Check.of("t0209;g30;p0001049;").bestLate(), 29);
        Check.due("30", Check.of("t0209;g30;p0001050;").bestLate(), 30);
        Check.due("31", Check.of("t0209;g30;p0001051;").bestLate(), 0);
    }

    @Keeps(promise = 30, sentence = BEST_LATE)
    static void p30_0IsTried() {
        Check.due("in time", Check.of("t0209;p0001020;").bestLate(), 0);
        Check.due("a minute late", Check.of("t0209;p0001021;").bestLate(), 1);
        Check.due("a new object", new SlowerForTheLate().bestLate(), 0);
        // with -1 who is PUSHED back would not have MISSED it
        Check.due("-1 is none", Check.of("t0201;p0001020;p0001020;").bestLate(), 0);
    }

    @Keeps(promise = 30, sentence = BEST_LATE)
    static void p30_theMost_ofSeveralTheLeast() {
        Check.due("two rather than one", Check.of("t0209;g05;p0001022;p0001025;").bestLate(), 5);
        Check.due("whatever LATE is now", Check.of("t0209;g05;l30;p0001022;p0001025;").bestLate(), 5);
        Check.due("with more no more", Check.of("t0209;l00;p0001020;p0001300;").bestLate(), 0);
    }

    // ---- promise 31: worth

    @Keeps(promise = 31, sentence = WORTH)
    static void p31_nobodyAndAllEight() {
        Check.due("a new object", new SlowerForTheLate().worth(), 0);
        Check.due("no TRAVELLERS", Check.of("t0209;").worth(), 0);
        Check.due("eight", Check.of("t0209;" + "p0001020;".repeat(8)).worth(), 240);
    }

    @Keeps(promise = 31, sentence = WORTH)
    static void p31_stranded2000Each() {
        Check.due("one", Check.of("p0001020;").worth(), 2000);
        Check.due("eight", Check.of("p0001020;".repeat(8)).worth(), 16000);
        Check.due("one of two", Check.of("t0209;p0001020;p0001031;").worth(), 2030);
    }

    // ---- promise 32: bestGap

    @Keeps(promise = 32, sentence = BEST)
    static void p32_30IsTried_31IsNot() {
        Check.due("29", Check.of("t0209;l30;p0001049;").bestGap(), 29);
        Check.due("30", Check.of("t0209;l30;p0001050;").bestGap(), 30);
        // the second of 31 would do at 51; the third of 16 does at 52
        Check.due("31", Check.of("t0209;l30;p7001051;").bestGap(), 16);
    }

    @Keeps(promise = 32, sentence = BEST)
    static void p32_1IsTried_ofSeveralTheLeast() {
        Check.due("a minute late", Check.of("t0209;p0001021;").bestGap(), 1);
        Check.due("in time", Check.of("t0209;p0001020;").bestGap(), 1);
        Check.due("all STRANDED", Check.of("t0200;g30;p0001020;").bestGap(), 1);
        Check.due("a new object", new SlowerForTheLate().bestGap(), 1);
        Check.due("GAP stays", bestGapThenGap(), 30);
    }

    private static int bestGapThenGap() {
        SlowerForTheLate x = Check.of("t0209;g30;p0001021;");
        x.bestGap();
        return x.count(4);
    }

    // ---- promise 33: bestStart

    private static void bestStart(String day, int want) {
        Check.due(day + " bestStart(0)", Check.of(day).bestStart(0), want);
    }

    @Keeps(promise = 33, sentence = BEST)
    static void p33_20LessAnd20More() {
        bestStart("t1009;p0001081;", 81);
        bestStart("t1009;p0001080;", 80);
        bestStart("t1009;p0001079;", 80);
        bestStart("t1009;p0001119;", 119);
        bestStart("t1009;p0001120;", 120);
        // the first of 121 would do; the second of 113 does
        bestStart("t1009;p0001121;", 113);
    }

    @Keeps(promise = 33, sentence = BEST)
    static void p33_0Held() {
        bestStart("t0009;p0001000;", 0);
        bestStart("t0199;p0001000;", 0);
        bestStart("t0209;p0001000;", 0);
        bestStart("t0219;p0001000;", 1);
        bestStart("t0009;p0001020;", 20);
    }

    @Keeps(promise = 33, sentence = BEST)
    static void p33_300Held() {
        bestStart("t3009;p0001300;", 300);
        bestStart("t2819;p0001300;", 300);
        bestStart("t2809;p0001300;", 300);
        // up to 299: the second of 292 does
        bestStart("t2799;p0001300;", 292);
        bestStart("t3009;p0001280;", 280);
        // the first of 301 would do; the second of 293 does
        bestStart("t3009;p2101300;", 293);
    }

    @Keeps(promise = 33, sentence = BEST)
    static void p33_ofSeveralTheLeast() {
        bestStart("t1009;", 80);
        bestStart("t0109;", 0);
        bestStart("t3009;", 280);
        // the second of 15 and the first of 25 are there at one minute
        bestStart("t0209;g10;s0;h0;p0001025;", 15);
    }

    @Keeps(promise = 33, sentence = "BEST START. -1.")
    static void p33_noSuchTrain() {
        for (int train : Refusals.outside(0, 1)) {
            Refusals.refused("bestStart(" + train + ")", x -> x.bestStart(train), -1);
        }
        Refusals.refused("one beyond four", Refusals::crowded, x -> x.bestStart(4), -1);
        Check.due("of none", new SlowerForTheLate().bestStart(0), -1);
    }

    // ---- promise 34: need

    @Keeps(promise = 34, sentence = NEED)
    static void p34_0IsTried() {
        Check.due("nobody", Check.of("t0209;").need(0), 0);
        Check.due("another train will do", Check.of("t0209;t0209;p0001020;").need(0), 0);
        Check.due("one", Check.of("t0209;p0001020;").need(0), 1);
    }

    @Keeps(promise = 34, sentence = NEED)
    static void p34_9IsTried_10IsNot() {
        Check.due("eight PLACES on the first", Check.of("t0200;" + FIRSTS_ALONE.repeat(8)).need(0), 8);
        Check.due("nine", Check.of("t0200;p7001010;" + FIRSTS_ALONE.repeat(7)).need(0), 9);
        Check.due("ten", Check.of("t0200;p7001010;p7001010;" + FIRSTS_ALONE.repeat(6)).need(0), -4);
        Check.due("ten, of 9 SEATS", Check.of("t0209;p7001010;p7001010;" + FIRSTS_ALONE.repeat(6)).need(0), -4);
    }

    @Keeps(promise = 34, sentence = NEED)
    static void p34_noneWillDo() {
        Check.due("too late", Check.of("t0209;p0001031;").need(0), -4);
        Check.due("one too late", Check.of("t0209;p0001020;p0001031;").need(0), -4);
        Check.due("a CANCELLED first", Check.of("t0209;x0;" + FIRSTS_ALONE).need(0), -4);
        Refusals.refused("one too late", BoundsOtherwiseTest::withOneTooLate, x -> x.need(0), -4);
    }

    @Keeps(promise = 34, sentence = Refusals.NOTHING_CHANGES)
    static void p34_minus4_nothingChanges() {
        Refusals.refused("need(0)", BoundsOtherwiseTest::withOneTooLate, x -> x.need(0), -4);
        Refusals.refused("need(1)", BoundsOtherwiseTest::withOneTooLate, x -> x.need(1), -4);
    }

    private static SlowerForTheLate withOneTooLate() {
        SlowerForTheLate x = Refusals.sample();
        x.base(0, 300);
        return x;
    }

    @Keeps(promise = 34, sentence = "NEED; -4. -1.")
    static void p34_noSuchTrain() {
        for (int train : Refusals.outside(0, 1)) {
            Refusals.refused("need(" + train + ")", x -> x.need(train), -1);
        }
        Refusals.refused("one beyond four", Refusals::crowded, x -> x.need(4), -1);
        Check.due("of none", new SlowerForTheLate().need(0), -1);
    }

    // ---- promise 35: extra

    @Keeps(promise = 35, sentence = EXTRA)
    static void p35_0And300() {
        Check.due("0", Check.of("p0001000;").extra(), 0);
        Check.due("10", Check.of("p0001001;").extra(), 10);
        Check.due("290", Check.of("p0001290;").extra(), 290);
        Check.due("300", Check.of("p0001291;").extra(), 300);
        Check.due("300", Check.of("p0001300;").extra(), 300);
        // 310 is none: the second of 300 is there at 308, its third at 316
        Check.due("308", Check.of("p2801300;").extra(), 300);
    }

    @Keeps(promise = 35, sentence = EXTRA)
    static void p35_nineSeats() {
        // nine PLACES on the first of 30; with eight the 20 would be better
        Check.due("nine", Check.of("p7001020;p7001030;p6001010;p7001030;p7001010;").extra(), 30);
    }

    @Keeps(promise = 35, sentence = EXTRA)
    static void p35_ofSeveralTheLeast() {
        Check.due("nobody", new SlowerForTheLate().extra(), 0);
        Check.due("no need of it", Check.of("t0209;p0001020;").extra(), 0);
        // the second of 20 and the first of 30 are there at one minute
        Check.due("20 and 30", Check.of("g10;s0;h0;p0001025;").extra(), 20);
    }

    @Keeps(promise = 35, sentence = EXTRA)
    static void p35_thereAre4() {
        Check.due("three", Check.of("t0000;t0000;t0000;p0001020;").extra(), 20);
        Check.due("four", Check.of("t0000;t0000;t0000;t0000;p0001020;").extra(), -4);
        Refusals.refused("four", Refusals::crowded, SlowerForTheLate::extra, -4);
    }

    @Keeps(promise = 35, sentence = "EXTRA; -4.")
    static void p35_noneIsMade() {
        SlowerForTheLate x = Check.of("t0000;p0001020;");
        x.extra();
        Check.due("trains", x.count(1), 1);
    }
}
