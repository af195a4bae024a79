/** Promises 19 to 25: each sentence of the document that names a bound of coming later. */
public final class BoundsLaterTest {
    private static final String LATER =
        "LATER: a TRAVELLER whose BASE is m more (0 .. 60, beyond 300, too): the m by which it ARRIVES soonest, of several "
        + "the least (STRANDED is 2000)";
    private static final String SLACK = "SLACK: the greatest such m with which it ARRIVES no later than now.";
    private static final String ODDS = "ODDS: m 0 to 9 alike likely: with how many of ten it ARRIVES";
    private static final String MEAN = "the mean MINUTE of those (a fraction in least terms; 0 by 1 none).";
    private static final String TWO =
        "TWO choose to come 0, 5 or 10 MINUTES later (choices 0, 1, 2): the first pair (10 times the first's choice and the "
        + "other's) by which neither ARRIVES sooner by another choice alone; -4.";
    private static final String WHOSE = "WHOSE: TRAVELLERS (bits) without each of whom alone one ARRIVES sooner.";
    private static final String TOGETHER = "TOGETHER: the MINUTES for which two are aboard one train at once.";
    private static final String WIDE = "Of differences (CANCEL, LAW) -1 is -1000000001; of longs likewise.";

    /** Up to 68 one gets the second of train 0, up to 70 its third at 76, from 71 on the first of train 1 at 77. */
    private static final String BETTER_AT_71 = "t0609;x0;t0779;";
    /** At 300 one gets the slow second of train 0 at 301; at 301 the first of train 1, at 301, too. */
    private static final String BETTER_AT_301 = "t2999;t3009;x0;l00;g01;s9;r001;p0014300;";

    public static void main(String[] args) {
        Sentences.run(BoundsLaterTest.class);
    }

    private static void later(String day, int m, int minute) {
        Check.due(day + " later(0, 0)", Check.of(day).later(0, 0), m);
        Check.due(day + " later(0, 1)", Check.of(day).later(0, 1), minute);
    }

    private static void slack(String day, int m) {
        Check.due(day + " slack(0)", Check.of(day).slack(0), m);
    }

    // ---- promise 19: later

    @Keeps(promise = 19, sentence = LATER)
    static void p19_60IsTried_61IsNot() {
        later(BETTER_AT_71 + "p0004012;", 59, 117);
        later(BETTER_AT_71 + "p0004011;", 60, 117);
        later(BETTER_AT_71 + "p0004010;", 0, 130);
    }

    @Keeps(promise = 19, sentence = LATER)
    static void p19_0IsTried() {
        later("t0209;p0004020;", 0, 60);
        later("t0209;p0004000;", 0, 60);
    }

    @Keeps(promise = 19, sentence = LATER)
    static void p19_beyond300Too() {
        later(BETTER_AT_301, 1, 331);
        Check.due("as it is", Check.of(BETTER_AT_301).fate(0, 4), 360);
        Check.due("BASE stays", Check.of(BETTER_AT_301).traveller(0, 4), 300);
    }

    @Keeps(promise = 19, sentence = LATER)
    static void p19_ofSeveralTheLeast() {
        // 71 to 77 are as good
        later(BETTER_AT_71 + "p0004061;", 10, 117);
        later("t0609;p0004000;", 0, 100);
    }

    @Keeps(promise = 19, sentence = LATER)
    static void p19_strandedIs2000() {
        later("p0004020;", 0, 2000);
        later("t0209;p0004031;", 0, 2000);
        // by 1 and more it would be STRANDED
        later("t0209;l00;p0004020;", 0, 60);
    }

    @Keeps(promise = 19, sentence = "LATER: m (what 0), the MINUTE it ARRIVES at then (1). -1.")
    static void p19_noSuchTraveller() {
        for (int t : Refusals.outside(0, 2)) {
            Refusals.refused("later(" + t + ", 0)", x -> x.later(t, 0), -1);
            Refusals.refused("later(" + t + ", 1)", x -> x.later(t, 1), -1);
        }
        Check.due("one beyond eight", Refusals.crowded().later(8, 0), -1);
    }

    @Keeps(promise = 19, sentence = "LATER: m (what 0), the MINUTE it ARRIVES at then (1). -1.")
    static void p19_nothingSuch() {
        for (int what : Refusals.outside(0, 1)) {
            Refusals.refused("later(0, " + what + ")", x -> x.later(0, what), -1);
        }
    }

    // ---- promise 20: slack

    @Keeps(promise = 20, sentence = SLACK)
    static void p20_0IfAnyLaterIsTooLate() {
        slack("t0209;p0004020;", 0);
        slack("t0209;l00;p0004020;", 0);
    }

    @Keeps(promise = 20, sentence = SLACK)
    static void p20_1IfJustOneIsLeft() {
        slack("t0209;p0004019;", 1);
        slack("t0209;l00;p0004019;", 1);
    }

    @Keeps(promise = 20, sentence = SLACK)
    static void p20_60AtMost() {
        slack("t0589;p0004000;", 58);
        slack("t0599;p0004000;", 59);
        slack("t0609;p0004000;", 60);
        slack("t0619;p0004000;", 60);
        slack("t3009;p0004000;", 60);
    }

    @Keeps(promise = 20, sentence = SLACK)
    static void p20_theGreatest_thoughSomeBetweenAreWorse() {
        // 69 and 70 are later than now, 71 to 77 sooner, 78 and more later again
        slack(BETTER_AT_71 + "p0004011;", 60);
        slack(BETTER_AT_71 + "p0004010;", 58);
        slack(BETTER_AT_71 + "p0004020;", 57);
    }

    @Keeps(promise = 20, sentence = SLACK)
    static void p20_noLaterThanNow_whoIsStrandedNowHas60() {
        slack("p0004020;", 60);
        slack("t0209;p0004031;", 60);
    }

    @Keeps(promise = 20, sentence = SLACK)
    static void p20_beyond300() {
        slack("t3009;x0;p0001292;", 16);
        slack("t3009;x0;p0001300;", 8);
    }

    @Keeps(promise = 20, sentence = "SLACK. -1.")
    static void p20_noSuchTraveller() {
        for (int t : Refusals.outside(0, 2)) {
            Refusals.refused("slack(" + t + ")", x -> x.slack(t), -1);
        }
        Check.due("one beyond eight", Refusals.crowded().slack(8), -1);
    }

    // ---- promise 21: odds

    @Keeps(promise = 21, sentence = ODDS)
    static void p21_m0To9() {
        int[] bases = {10, 11, 12, 19, 20, 21};
        int[] wants = {10, 10, 9, 2, 1, 0};
        for (int i = 0; i < bases.length; i++) {
            Check.due("BASE " + bases[i], Check.of("t0209;l00;p00040" + bases[i] + ";").odds(0), wants[i]);
        }
    }

    @Keeps(promise = 21, sentence = ODDS)
    static void p21_beyond300() {
        Check.due("in time at 300 alone", Check.of("t3009;l00;p0001300;").odds(0), 1);
        Check.due("late by up to 9", Check.of("t3009;l08;p0001300;").odds(0), 9);
    }

    @Keeps(promise = 21, sentence = "ODDS: how many of ten. -1.")
    static void p21_noSuchTraveller() {
        for (int t : Refusals.outside(0, 2)) {
            Refusals.refused("odds(" + t + ")", x -> x.odds(t), -1);
        }
        Check.due("one beyond eight", Refusals.crowded().odds(8), -1);
    }

    // ---- promise 22: mean

    private static void mean(String day, long above, long below) {
        Check.due(day + " mean(0, 0)", Check.of(day).mean(0, 0), above);
        Check.due(day + " mean(0, 1)", Check.of(day).mean(0, 1), below);
    }

    @Keeps(promise = 22, sentence = MEAN)
    static void p22_0By1None() {
        mean("p0004020;", 0, 1);
        mean("t0209;l00;p0004021;", 0, 1);
    }

    @Keeps(promise = 22, sentence = MEAN)
    static void p22_inLeastTerms() {
        // all alike; the first at 30 and the second at 45: 9 and 1, 8 and 2, 5 and 5
        mean("t0209;p0001011;", 30, 1);
        mean("t0209;p0001012;", 63, 2);
        mean("t0209;p0001013;", 33, 1);
        mean("t0209;p0001016;", 75, 2);
        // at 30 and at 44
        mean("t0209;h1;p0001012;", 157, 5);
        mean("t0209;h1;p0001015;", 178, 5);
        mean("t0209;h3;p0001012;", 158, 5);
        // 9 of ten at 30, one STRANDED
        mean("t0209;l00;p0001012;", 30, 1);
    }

    @Keeps(promise = 22, sentence = MEAN)
    static void p22_ofThoseThatArrive() {
        mean("t0209;l00;p0001020;", 30, 1);
        // 20 to 22: the first, then the second twice; the others are too late
        mean("t0209;l02;p0001020;", 40, 1);
        // beyond 300: the first, eight times the second, the third
        mean("t3009;p0001300;", 1624, 5);
    }

    private static final String MEAN_REFUSED = "ODDS: the mean, part 0 above, 1 below the line. Refused as told.";

    @Keeps(promise = 22, sentence = WIDE)
    static void p22_ofLongsMinus1IsWider() {
        Check.due("no such one", Check.of("t0209;p0001020;").mean(1, 0), -1000000001L);
        Check.due("no such part", Check.of("t0209;p0001020;").mean(0, 2), -1000000001L);
    }

    @Keeps(promise = 22, sentence = MEAN_REFUSED)
    static void p22_noSuchTraveller() {
        for (int t : Refusals.outside(0, 2)) {
            Refusals.refused("mean(" + t + ", 0)", x -> x.mean(t, 0), Refusals.WIDE);
            Refusals.refused("mean(" + t + ", 1)", x -> x.mean(t, 1), Refusals.WIDE);
        }
        Check.due("one beyond eight", Refusals.crowded().mean(8, 0), Refusals.WIDE);
    }

    @Keeps(promise = 22, sentence = MEAN_REFUSED)
    static void p22_noSuchPart() {
        for (int part : Refusals.outside(0, 1)) {
            Refusals.refused("mean(0, " + part + ")", x -> x.mean(0, part), Refusals.WIDE);
        }
    }

    // ---- promise 23: two

    @Keeps(promise = 23, sentence = TWO)
    static void p23_theFirstPair_0And0IfNobodyGains() {
        Check.due("both in time", Check.of("t0609;p0004020;p0004020;").two(0, 1), 0);
        Check.due("both STRANDED", Check.of("p0004020;p0004020;").two(0, 1), 0);
    }

    @Keeps(promise = 23, sentence = TWO)
    static void p23_choice2_10MinutesLater() {
        // at 61 to 70 it has MISSED the cancelled first, at 71 it has not
        Check.due("the first by 10", Check.of(BETTER_AT_71 + "p0004061;p0004000;").two(0, 1), 20);
        Check.due("the other by 10", Check.of(BETTER_AT_71 + "p0004061;p0004000;").two(1, 0), 2);
        Check.due("both by 10", Check.of(BETTER_AT_71 + "p0004061;p0004062;").two(0, 1), 22);
        Check.due("11 is no choice", Check.of(BETTER_AT_71 + "p0004060;p0004000;").two(0, 1), 0);
    }

    @Keeps(promise = 23, sentence = TWO)
    static void p23_choice1_5MinutesLater() {
        Check.due("the first by 5", Check.of(BETTER_AT_71 + "p0004066;p0004000;").two(0, 1), 10);
        Check.due("the other by 5", Check.of(BETTER_AT_71 + "p0004066;p0004000;").two(1, 0), 1);
        Check.due("both by 5", Check.of(BETTER_AT_71 + "p0004066;p0004068;").two(0, 1), 11);
        Check.due("one by 5, one by 10", Check.of(BETTER_AT_71 + "p0004066;p0004065;").two(0, 1), 12);
        Check.due("one by 10, one by 5", Check.of(BETTER_AT_71 + "p0004065;p0004066;").two(0, 1), 21);
    }

    @Keeps(promise = 23, sentence = TWO)
    static void p23_noPairWillDo() {
        Check.due("never at rest", Check.of("t0301;t0201;g08;p2004026;p5504025;p2004025;").two(0, 1), -4);
    }

    @Keeps(promise = 23, sentence = Refusals.NOTHING_CHANGES)
    static void p23_minus4_nothingChanges() {
        Refusals.refused("two(0, 1)", BoundsLaterTest::neverAtRest, x -> x.two(0, 1), -4);
    }

    private static SlowerForTheLate neverAtRest() {
        return Check.of("t0301;t0201;g08;p2004026;p5504025;p2004025;");
    }

    @Keeps(promise = 23, sentence = "TWO; -4. -1 (one twice).")
    static void p23_oneTwice() {
        for (int t = 0; t <= 2; t++) {
            int one = t;
            Refusals.refused("two(" + t + ", " + t + ")", x -> x.two(one, one), -1);
        }
        Check.due("no such one twice", Refusals.sample().two(3, 3), -1);
    }

    @Keeps(promise = 23, sentence = "TWO; -4. -1 (one twice).")
    static void p23_noSuchTraveller() {
        for (int t : Refusals.outside(0, 2)) {
            Refusals.refused("two(" + t + ", 0)", x -> x.two(t, 0), -1);
            Refusals.refused("two(0, " + t + ")", x -> x.two(0, t), -1);
        }
        Check.due("one alone", Check.of("p0004020;").two(0, 1), -1);
    }

    // ---- promise 24: whose

    @Keeps(promise = 24, sentence = WHOSE)
    static void p24_theFirstAndTheLastOfEight() {
        String others = "p0001300;".repeat(6);
        SlowerForTheLate x = Check.of("t0201;p0004010;" + others + "p0004020;");
        Check.due("the first of eight", x.whose(7), 1);
        Check.due("of the first", x.whose(0), 0);
        SlowerForTheLate y = Check.of("t0201;p0004020;" + others + "p0004010;");
        Check.due("the last of eight", y.whose(0), 128);
        Check.due("of the last", y.whose(7), 0);
    }

    @Keeps(promise = 24, sentence = WHOSE)
    static void p24_severalAndAllOthers() {
        Check.due("two ahead of it", Check.of("t0201;p0004010;p0004011;p0004012;").whose(2), 3);
        Check.due("two behind it", Check.of("t0201;p0004012;p0004011;p0004010;").whose(0), 6);
        Check.due("one ahead, one behind", Check.of("t0201;p0004010;p0004012;p0004011;").whose(1), 5);
        SlowerForTheLate x = Check.of("t0207;" + "p0004020;".repeat(8));
        Check.due("each of the seven others", x.whose(7), 127);
        Check.due("of one who has a seat", x.whose(6), 0);
    }

    @Keeps(promise = 24, sentence = WHOSE)
    static void p24_oneAlone_nobodys() {
        Check.due("who gets on", Check.of("t0201;p0004010;").whose(0), 0);
        Check.due("who is STRANDED", Check.of("t0200;p0004010;").whose(0), 0);
    }

    @Keeps(promise = 24, sentence = WHOSE)
    static void p24_alone_notTwoTogether() {
        // the two that go to stop 1 make the second halt there: it takes both to leave for it to be sooner
        Check.due("one or the other", Check.of("t0209;p0004021;p0001021;p0001021;").whose(0), 0);
        Check.due("one of them", Check.of("t0209;p0004021;p0001021;").whose(0), 2);
    }

    @Keeps(promise = 24, sentence = "WHOSE (bits). -1.")
    static void p24_noSuchTraveller() {
        for (int t : Refusals.outside(0, 2)) {
            Refusals.refused("whose(" + t + ")", x -> x.whose(t), -1);
        }
        Check.due("one beyond eight", Refusals.crowded().whose(8), -1);
    }

    // ---- promise 25: together

    @Keeps(promise = 25, sentence = TOGETHER)
    static void p25_oneGetsOffWhereTheOtherGetsOn_0() {
        Check.due("off at 1, on at 1", Check.of("t0209;p0001020;p0012020;").together(0, 1), 0);
        Check.due("off at 1, on at 2", Check.of("t0209;p0001020;p0023020;").together(0, 1), 0);
        Check.due("turned", Check.of("t0209;p0001020;p0023020;").together(1, 0), 0);
        Check.due("off at 2, on at 1", Check.of("t0209;p0002020;p0013020;").together(0, 1), 10);
    }

    @Keeps(promise = 25, sentence = TOGETHER)
    static void p25_allTheWay() {
        Check.due("40 minutes", Check.of("t0209;p0004020;p0004020;").together(0, 1), 40);
    }

    @Keeps(promise = 25, sentence = TOGETHER)
    static void p25_notOneTrain_0() {
        Check.due("two depths", Check.of("t0201;p0004020;p0004020;").together(0, 1), 0);
        Check.due("two trains", Check.of("t0201;t0201;p0004020;p0004020;").together(0, 1), 0);
    }

    @Keeps(promise = 25, sentence = TOGETHER)
    static void p25_stranded_0() {
        Check.due("one of them", Check.of("t0209;p0004020;p0004031;").together(0, 1), 0);
        Check.due("the other", Check.of("t0209;p0004020;p0004031;").together(1, 0), 0);
        Check.due("both", Check.of("t0209;p0004031;p0004032;").together(0, 1), 0);
    }

    @Keeps(promise = 25, sentence = "TOGETHER. -1 (one twice).")
    static void p25_oneTwice() {
        for (int t = 0; t <= 2; t++) {
            int one = t;
            Refusals.refused("together(" + t + ", " + t + ")", x -> x.together(one, one), -1);
        }
    }

    @Keeps(promise = 25, sentence = "TOGETHER. -1 (one twice).")
    static void p25_noSuchTraveller() {
        for (int t : Refusals.outside(0, 2)) {
            Refusals.refused("together(" + t + ", 0)", x -> x.together(t, 0), -1);
            Refusals.refused("together(0, " + t + ")", x -> x.together(0, t), -1);
        }
        Check.due("one alone", Check.of("t0209;p0004020;").together(0, 1), -1);
    }
}
