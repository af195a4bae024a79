/** Promises 14 to 18: each sentence of the document that names a bound of a day. */
public final class BoundsDayTest {
    private static final String NEXT =
        "a train is at a STOP; the one with the least MINUTE is next, of several the least TRAIN, then DEPTH.";
    private static final String OFF_FIRST = "first those aboard whose OFF it is get off: they ARRIVE at that MINUTE.";
    private static final String ASKED =
        "Then all whose FROM it is and who never were aboard are asked, by RANK, then COMES, then number";
    private static final String GETS_ON =
        "one GETS ON, if it is there (COMES no later), MAY (a FIRST that is not CANCELLED: everybody; of DEPTH 1, 2: who has "
        + "MISSED that of one DEPTH less of the same TRAIN), TAKES it and there are its PLACES left of SEATS.";
    private static final String MISSED =
        "Who does not get on has MISSED it, if it is a FIRST (CANCELLED or not) or one MAY, and it was late by no more than "
        + "LATE and its EXCUSE: COMES less the MINUTE, 0 at least.";
    private static final String PUSHED = "One who was there, MAY and TAKES it, but had no PLACES, is PUSHED back.";
    private static final String ENDS = "At STOP 4 a train ends.";
    private static final String TILL = "how many trains it had MISSED till it got on (or in all)";
    private static final String FATE =
        "FATE: 1, 0 (what 0); TRAIN (1; -4), DEPTH (2; -4), the MINUTE on (3; -4), ARRIVED (4; -4), where off (5; -4), MISSED "
        + "(6), PUSHED (7). -1.";

    public static void main(String[] args) {
        Sentences.run(BoundsDayTest.class);
    }

    /** TRAIN, DEPTH, the MINUTE on, ARRIVED, where off, MISSED, PUSHED. */
    private static void arrives(String day, int t, int... wants) {
        SlowerForTheLate x = Check.of(day);
        Check.due(day + " fate(" + t + ", 0)", x.fate(t, 0), 1);
        for (int i = 0; i < wants.length; i++) {
            Check.due(day + " fate(" + t + ", " + (i + 1) + ")", x.fate(t, i + 1), wants[i]);
        }
    }

    private static void stranded(String day, int t, int missed, int pushed) {
        SlowerForTheLate x = Check.of(day);
        Check.due(day + " fate(" + t + ", 0)", x.fate(t, 0), 0);
        Check.due(day + " fate(" + t + ", 6)", x.fate(t, 6), missed);
        Check.due(day + " fate(" + t + ", 7)", x.fate(t, 7), pushed);
    }

    // ---- promise 14: which train is next

    @Keeps(promise = 14, sentence = NEXT)
    static void p14_theLeastMinuteIsNext_notTheLeastTrain() {
        arrives("t0211;t0201;p0004020;p0004020;", 0, 1, 0, 20, 60, 4, 0, 0);
        arrives("t0211;t0201;p0004020;p0004020;", 1, 0, 0, 21, 61, 4, 1, 1);
    }

    @Keeps(promise = 14, sentence = NEXT)
    static void p14_theLeastMinuteIsNext_atEachStop() {
        for (int from = 0; from < 4; from++) {
            String two = ("p00F40B0;p00F40B0;").replace("F", "" + from).replace("B", "" + (2 + from));
            int minute = 20 + 10 * from;
            arrives("t0211;t0201;" + two, 0, 1, 0, minute, 60, 4, 0, 0);
            arrives("t0211;t0201;" + two, 1, 0, 0, minute + 1, 61, 4, 1, 1);
        }
    }

    @Keeps(promise = 14, sentence = NEXT)
    static void p14_ofOneMinuteTheLeastTrain() {
        arrives("t0201;t0201;p0004020;p0004020;", 0, 0, 0, 20, 60, 4, 0, 0);
        arrives("t0201;t0201;p0004020;p0004020;", 1, 1, 0, 20, 60, 4, 1, 1);
    }

    @Keeps(promise = 14, sentence = NEXT)
    static void p14_ofOneMinuteTheLeastTrain_aheadOfDepth() {
        // at 28 there are the second of one and the first of the other
        arrives("t0209;t0289;p0001021;", 0, 0, 1, 28, 45, 1, 1, 0);
        arrives("t0289;t0209;p0001021;", 0, 0, 0, 28, 38, 1, 1, 0);
    }

    @Keeps(promise = 14, sentence = NEXT)
    static void p14_ofOneMinuteAndTrainTheLeastDepth() {
        // the second halts at stop 0 and is at stop 1 at 32, as is the third; it is full, and so MISSED ahead of the third
        SlowerForTheLate x = Check.of("t0201;g01;s0;h1;p0004021;p0012031;");
        Check.due("the second at stop 1", x.when(0, 1, 1), 32);
        Check.due("the third at stop 1", x.when(0, 2, 1), 32);
        arrives("t0201;g01;s0;h1;p0004021;p0012031;", 1, 0, 2, 32, 43, 2, 2, 1);
    }

    // ---- who gets off, who is asked

    @Keeps(promise = 14, sentence = OFF_FIRST)
    static void p14_offAheadOfOn_theLastSeatIsFree() {
        arrives("t0201;p0001020;p0012030;", 0, 0, 0, 20, 30, 1, 0, 0);
        arrives("t0201;p0001020;p0012030;", 1, 0, 0, 30, 40, 2, 0, 0);
        // the second halts behind the getting off: 43 and not 45 and more
        arrives("t0201;p0001021;p0012043;l30;", 0, 0, 1, 28, 45, 1, 1, 0);
        arrives("t0201;p0001021;p0012043;l30;", 1, 0, 1, 45, 62, 2, 1, 0);
    }

    @Keeps(promise = 14, sentence = ASKED)
    static void p14_whoIsAboardOrWas_isAskedNoMore() {
        arrives("t0209;t0209;t0409;p0001020;", 0, 0, 0, 20, 30, 1, 0, 0);
        arrives("t0209;t0209;t0409;p0004020;", 0, 0, 0, 20, 60, 4, 0, 0);
        SlowerForTheLate x = Check.of("t0209;t0209;t0409;p0001020;");
        Check.due("fullest(1, 0)", x.fullest(1, 0), 0);
        Check.due("fullest(2, 0)", x.fullest(2, 0), 0);
    }

    @Keeps(promise = 14, sentence = ASKED)
    static void p14_byRank_thoughTheOtherCameEarlier() {
        String[][] pairs = {{"p1004001;", "p4004020;"}, {"p0004001;", "p1004020;"}, {"p3004001;", "p0004020;"}};
        for (String[] pair : pairs) {
            Check.due(pair[1] + " gets the seat", Check.of("t0201;" + pair[0] + pair[1]).fate(1, 2), 0);
            Check.due(pair[0] + " is PUSHED", Check.of("t0201;" + pair[0] + pair[1]).fate(0, 7), 1);
            Check.due("the other way round", Check.of("t0201;" + pair[1] + pair[0]).fate(0, 2), 0);
        }
    }

    @Keeps(promise = 14, sentence = ASKED)
    static void p14_ofOneRankByComes_notByBase() {
        Check.due("the later one", Check.of("t0201;p0004020;p0004019;").fate(0, 2), 1);
        Check.due("the earlier one", Check.of("t0201;p0004020;p0004019;").fate(1, 2), 0);
        // BASE 10 and COMES 19 against BASE and COMES 18
        Check.due("the earlier BASE", Check.of("t0201;p2904010;p0004018;").fate(0, 2), 1);
        Check.due("the earlier COMES", Check.of("t0201;p2904010;p0004018;").fate(1, 2), 0);
    }

    @Keeps(promise = 14, sentence = ASKED)
    static void p14_allEightInTurn_whateverTheirNumbers() {
        int[][] orders = {{0, 1, 2, 3, 4, 5, 6, 7}, {7, 6, 5, 4, 3, 2, 1, 0}, {3, 0, 6, 1, 7, 4, 2, 5}};
        for (int[] order : orders) {
            StringBuilder day = new StringBuilder("t0201;t0201;t0201;");
            for (int place : order) {
                day.append("p000401").append(place).append(';');
            }
            SlowerForTheLate x = Check.of(day.toString());
            for (int t = 0; t < 8; t++) {
                Check.due("TRAIN of " + order[t], x.fate(t, 1), order[t] % 3);
                Check.due("DEPTH of " + order[t], x.fate(t, 2), order[t] / 3);
                Check.due("PUSHED of " + order[t], x.fate(t, 7), order[t]);
            }
        }
    }

    @Keeps(promise = 14, sentence = ASKED)
    static void p14_ofOneMinuteByNumber() {
        for (String other : new String[] {"p0004020;", "p2204018;", "p5904020;"}) {
            Check.due("the lesser number", Check.of("t0201;p0004020;" + other).fate(0, 2), 0);
            Check.due("the greater number", Check.of("t0201;p0004020;" + other).fate(1, 2), 1);
            Check.due("the lesser number, turned", Check.of("t0201;" + other + "p0004020;").fate(0, 2), 0);
        }
    }

    // ---- who gets on

    @Keeps(promise = 14, sentence = GETS_ON)
    static void p14_comesNoLater_theMinuteItselfIsInTime() {
        arrives("t0209;l00;p0001019;", 0, 0, 0, 20, 30, 1, 0, 0);
        arrives("t0209;l00;p0001020;", 0, 0, 0, 20, 30, 1, 0, 0);
        stranded("t0209;l00;p0001021;", 0, 0, 0);
        arrives("t0009;l00;p0001000;", 0, 0, 0, 0, 10, 1, 0, 0);
        arrives("t3009;l00;p0034300;", 0, 0, 0, 330, 340, 4, 0, 0);
    }

    @Keeps(promise = 14, sentence = GETS_ON)
    static void p14_may_nobodyTheCancelledFirst() {
        arrives("t0209;x0;p0001020;", 0, 0, 1, 28, 45, 1, 1, 0);
        arrives("t0209;x0;p0001000;", 0, 0, 1, 28, 45, 1, 1, 0);
        Check.due("nobody is on it", Check.of("t0209;x0;p0001020;").fullest(0, 0), 0);
    }

    @Keeps(promise = 14, sentence = GETS_ON)
    static void p14_may_theSecondWhoHasMissedTheFirst() {
        arrives("t0209;l05;g05;p0001025;", 0, 0, 1, 25, 42, 1, 1, 0);
        // in time for the second, too late to have MISSED the first
        stranded("t0209;l04;g05;p0001025;", 0, 0, 0);
    }

    @Keeps(promise = 14, sentence = GETS_ON)
    static void p14_may_ofTheSameTrain() {
        // it has MISSED the first of train 1, so none of those of train 0 will do at 36, only the second of train 1
        arrives("t0209;t0289;p0001036;", 0, 1, 1, 36, 53, 1, 1, 0);
        arrives("t0289;t0209;p0001036;", 0, 0, 1, 36, 53, 1, 1, 0);
    }

    @Keeps(promise = 14, sentence = GETS_ON)
    static void p14_may_theThirdWhoHasMissedTheSecond() {
        // the third is at stop 1 at 32, ahead of the second at 40: by then nobody there has MISSED the second
        arrives("t0209;g01;s0;h9;p0004021;p0012031;", 1, 0, 1, 40, 59, 2, 1, 0);
        stranded("t0201;g01;s0;h9;p0004021;p0012031;", 1, 2, 1);
    }

    @Keeps(promise = 14, sentence = GETS_ON)
    static void p14_placesLeft_oneOfOne_noneOfNone() {
        arrives("t0201;p0004020;", 0, 0, 0, 20, 60, 4, 0, 0);
        stranded("t0200;p0004020;", 0, 3, 3);
        arrives("t0201;p0004020;p0004020;", 1, 0, 1, 28, 90, 4, 1, 1);
    }

    @Keeps(promise = 14, sentence = GETS_ON)
    static void p14_placesLeft_twoForAParent() {
        arrives("t0202;p7004020;", 0, 0, 0, 20, 60, 4, 0, 0);
        stranded("t0201;p7004020;", 0, 3, 3);
        arrives("t0202;p0004019;p7004020;", 1, 0, 1, 28, 90, 4, 1, 1);
        arrives("t0203;p0004019;p7004020;", 1, 0, 0, 20, 60, 4, 0, 0);
        // who comes behind it takes the one that is left
        arrives("t0202;p0004018;p7004019;p0004020;", 2, 0, 0, 20, 60, 4, 0, 0);
    }

    @Keeps(promise = 14, sentence = GETS_ON)
    static void p14_placesLeft_nineOfNine() {
        String nine = "t0209;p7004020;p7004020;p7004020;p7004020;p0004020;";
        arrives(nine, 4, 0, 0, 20, 60, 4, 0, 0);
        Check.due("all PLACES", Check.of(nine).fullest(0, 0), 9);
        arrives(nine + "p0004020;", 5, 0, 1, 28, 90, 4, 1, 1);
    }

    // ---- who has missed it

    /** EXCUSE and what COMES is more than BASE, of one with BASE 50 or more. */
    private static int excuse(int kind, int figure) {
        return new int[] {0, 1, figure, figure + 5, 2, figure / 2, Math.max(0, figure - 1), 6}[kind];
    }

    private static int shift(int kind, int figure) {
        return new int[] {0, -figure, figure, figure + 2, -figure - 3, 0, figure, 0}[kind];
    }

    @Keeps(promise = 14, sentence = MISSED)
    static void p14_missed_lateByJustLateAndItsExcuse() {
        for (int kind = 0; kind < 8; kind++) {
            for (int figure = 0; figure < 10; figure++) {
                int base = 50 + 3 + excuse(kind, figure) - shift(kind, figure);
                String day = "t0509;l03;g30;p" + kind + figure + "04";
                // an AIMER that aims elsewhere misses the others, too
                boolean takesSecond = kind != 6 || figure / 3 == 1;
                int missed = takesSecond ? 1 : figure / 3 == 2 ? 2 : 3;
                Check.due(day + base, Check.of(day + "0" + base + ";").fate(0, 6), missed);
                Check.due(day + base, Check.of(day + "0" + base + ";").fate(0, 0), missed == 3 ? 0 : 1);
                stranded(day + "0" + (base + 1) + ";", 0, 0, 0);
            }
        }
    }

    @Keeps(promise = 14, sentence = MISSED)
    static void p14_missed_withLate0AndLate30() {
        stranded("t0209;l00;p0001021;", 0, 0, 0);
        arrives("t0209;l30;g30;p0001050;", 0, 0, 1, 50, 67, 1, 1, 0);
        stranded("t0209;l30;g30;p0001051;", 0, 0, 0);
    }

    @Keeps(promise = 14, sentence = MISSED)
    static void p14_missed_aFirstCancelledOrNot() {
        // there, and late by as much as may be: the second takes both
        arrives("t0209;x0;g10;p0001020;", 0, 0, 1, 30, 47, 1, 1, 0);
        arrives("t0209;x0;g10;p0001030;", 0, 0, 1, 30, 47, 1, 1, 0);
        arrives("t0209;g10;p0001030;", 0, 0, 1, 30, 47, 1, 1, 0);
        stranded("t0209;x0;g10;p0001031;", 0, 0, 0);
    }

    @Keeps(promise = 14, sentence = MISSED)
    static void p14_missed_ofSecondsAndThirdsOnlyWhatOneMay() {
        // 3 late for the second and there for the third, yet neither is MISSED
        stranded("t0209;p0001031;", 0, 0, 0);
        // late for the second, which it MAY: then the third
        arrives("t0209;g02;p0001023;", 0, 0, 2, 24, 46, 1, 2, 0);
        // late for the third, too
        stranded("t0209;g01;p0001025;", 0, 3, 0);
    }

    @Keeps(promise = 14, sentence = MISSED)
    static void p14_missed_0AtLeast_whoIsLongThereMissesWhatItDoesNotTake() {
        arrives("t2009;l00;p6304000;", 0, 0, 1, 208, 270, 4, 1, 0);
        stranded("t2009;l00;p6904000;", 0, 3, 0);
        stranded("t2000;l00;p0004000;", 0, 3, 3);
    }

    // ---- who is pushed back

    @Keeps(promise = 14, sentence = PUSHED)
    static void p14_pushed_whoWasThere() {
        // not there for the first, there for the others
        stranded("t0200;p0001021;", 0, 3, 2);
        stranded("t0200;p0001020;", 0, 3, 3);
    }

    @Keeps(promise = 14, sentence = PUSHED)
    static void p14_pushed_whoMay() {
        stranded("t0200;x0;p0001020;", 0, 3, 2);
        // there for the second and the third, but too late to have MISSED the first
        stranded("t0200;g15;p0001031;", 0, 0, 0);
    }

    @Keeps(promise = 14, sentence = PUSHED)
    static void p14_pushed_whoTakesIt() {
        stranded("t0200;p6004010;", 0, 3, 1);
        stranded("t0200;p6304010;", 0, 3, 1);
        stranded("t0200;p6604010;", 0, 3, 1);
        stranded("t0200;p6904010;", 0, 3, 0);
    }

    // ---- the ends

    @Keeps(promise = 14, sentence = ENDS)
    static void p14_atStop4_allGetOff() {
        arrives("t0209;p0034020;", 0, 0, 0, 50, 60, 4, 0, 0);
        arrives("t0209;p5034020;", 0, 0, 0, 50, 60, 4, 0, 0);
        arrives("t0209;p5024020;", 0, 0, 0, 40, 60, 4, 0, 0);
        arrives("t0209;p5023020;", 0, 0, 0, 40, 60, 4, 0, 0);
        arrives("t0209;p0023020;", 0, 0, 0, 40, 50, 3, 0, 0);
    }

    @Keeps(promise = 14, sentence = TILL)
    static void p14_missedTillItGotOn_laterOnesDoNotCount() {
        arrives("t0209;t0609;g02;p0001023;", 0, 0, 2, 24, 46, 1, 2, 0);
        arrives("t0209;t0219;t0229;t0239;p0001020;", 0, 0, 0, 20, 30, 1, 0, 0);
    }

    @Keeps(promise = 14, sentence = TILL)
    static void p14_missedInAll_twelveAtMost() {
        stranded("t0200;t0200;t0200;t0200;p0001020;", 0, 12, 12);
        stranded("t0200;t0200;t0200;t0200;x0;x1;x2;x3;p0001020;", 0, 12, 8);
        stranded("p0001020;", 0, 0, 0);
    }

    @Keeps(promise = 14, sentence = "Who never gets on is STRANDED.")
    static void p14_stranded_whatItHasNone() {
        for (String day : new String[] {"p0001020;", "t0200;p0001020;", "t0209;p0001031;"}) {
            SlowerForTheLate x = Check.of(day);
            Check.due(day + " fate(0, 0)", x.fate(0, 0), 0);
            for (int what = 1; what <= 5; what++) {
                Check.due(day + " fate(0, " + what + ")", x.fate(0, what), -4);
            }
        }
    }

    @Keeps(promise = 14, sentence = Refusals.NOTHING_CHANGES)
    static void p14_minus4_nothingChanges() {
        for (int what = 1; what <= 5; what++) {
            int of = what;
            Refusals.refused("fate(0, " + what + ")", BoundsDayTest::withOneTooLate, x -> x.fate(0, of), -4);
        }
    }

    private static SlowerForTheLate withOneTooLate() {
        SlowerForTheLate x = Refusals.sample();
        x.base(0, 300);
        return x;
    }

    @Keeps(promise = 14, sentence = FATE)
    static void p14_noSuchTraveller() {
        for (int t : Refusals.outside(0, 2)) {
            for (int what = 0; what <= 7; what++) {
                Check.due("fate(" + t + ", " + what + ")", Refusals.sample().fate(t, what), -1);
            }
            Refusals.refused("fate(" + t + ", 0)", x -> x.fate(t, 0), -1);
        }
        Check.due("one beyond eight", Refusals.crowded().fate(8, 0), -1);
    }

    @Keeps(promise = 14, sentence = FATE)
    static void p14_nothingSuch() {
        for (int what : Refusals.outside(0, 7)) {
            Refusals.refused("fate(0, " + what + ")", x -> x.fate(0, what), -1);
            Check.due("of one who is STRANDED", Check.of("p0001020;").fate(0, what), -1);
        }
    }

    @Keeps(promise = 14, sentence = FATE)
    static void p14_train0AndDepth0AreNoRefusal() {
        arrives("t0209;p0001020;", 0, 0, 0, 20, 30, 1, 0, 0);
        arrives("t0009;p0001000;", 0, 0, 0, 0, 10, 1, 0, 0);
        arrives("t0000;t0000;t0000;t0001;p0001000;", 0, 3, 0, 0, 10, 1, 3, 3);
    }

    // ---- promise 15: when

    private static void whens(String day, int depth, int... wants) {
        SlowerForTheLate x = Check.of(day);
        for (int stop = 0; stop < wants.length; stop++) {
            Check.due(day + " when(0, " + depth + ", " + stop + ")", x.when(0, depth, stop), wants[stop]);
        }
    }

    @Keeps(promise = 15, sentence =
        "Behind each FIRST (DEPTH 0) there runs its SECOND (DEPTH 1) and its THIRD (2), at STOP 0 GAP, twice GAP MINUTES later")
    static void p15_gap1AndGap30() {
        int[] gaps = {1, 30};
        for (int gap : gaps) {
            SlowerForTheLate x = Check.of(gap == 1 ? "t0209;g01;" : "t0209;g30;");
            for (int depth = 0; depth < 3; depth++) {
                Check.due("GAP " + gap + ", DEPTH " + depth, x.when(0, depth, 0), 20 + depth * gap);
            }
        }
    }

    @Keeps(promise = 15, sentence = "On a PIECE one of DEPTH d takes RUN, and RUN times d times SLOW by 10, cut, more")
    static void p15_slow0And9() {
        for (int depth = 0; depth < 3; depth++) {
            int start = 20 + 8 * depth;
            whens("t0209;s0;", depth, start, start + 10, start + 20, start + 30, start + 40);
        }
        whens("t0209;s9;", 0, 20, 30, 40, 50, 60);
        whens("t0209;s9;", 1, 28, 47, 66, 85, 104);
        whens("t0209;s9;", 2, 36, 64, 92, 120, 148);
    }

    @Keeps(promise = 15, sentence = "On a PIECE one of DEPTH d takes RUN, and RUN times d times SLOW by 10, cut, more")
    static void p15_cut_andNotAheadOfTheDoubling() {
        // 1 by 9: 0.9, 1.8; 7 by 7 below
        whens("t0209;s9;r001;r101;r201;r301;", 1, 28, 29, 30, 31, 32);
        whens("t0209;s9;r001;r101;r201;r301;", 2, 36, 38, 40, 42, 44);
        // 7 by 7: 4.9, 9.8
        whens("t0209;s7;r007;r107;r207;r307;", 1, 28, 39, 50, 61, 72);
        whens("t0209;s7;r007;r107;r207;r307;", 2, 36, 52, 68, 84, 100);
    }

    @Keeps(promise = 15, sentence = "\"a by b, cut\" is a divided by b, toward 0")
    static void p15_cutIsTowards0_neverUp() {
        // 9 by 9: 8.1 and 16.2; 11 by 9: 9.9 and 19.8; 10 by 1: 1 and 2; 9 by 1: 0.9 and 1.8
        int[][] wants = {{9, 9, 17, 25}, {11, 9, 20, 30}, {10, 1, 11, 12}, {9, 1, 9, 10}};
        for (int[] want : wants) {
            SlowerForTheLate x = new SlowerForTheLate();
            x.train(0, 0);
            x.run(0, want[0]);
            x.set(2, want[1]);
            for (int depth = 1; depth <= 2; depth++) {
                Check.due("RUN " + want[0] + ", SLOW " + want[1] + ", DEPTH " + depth,
                    x.when(0, depth, 1) - x.when(0, depth, 0), want[1 + depth]);
            }
        }
    }

    @Keeps(promise = 15, sentence = "On a PIECE one of DEPTH d takes RUN, and RUN times d times SLOW by 10, cut, more")
    static void p15_theLatestOfAll() {
        whens("t3009;g30;s9;h9;r060;r160;r260;r360;", 2, 360, 528, 696, 864, 1032);
        whens("t0009;g01;s0;h0;r001;r101;r201;r301;", 0, 0, 1, 2, 3, 4);
    }

    @Keeps(promise = 15, sentence = "of DEPTH 1 and 2 one leaves a STOP at which somebody got off or on HALT MINUTES later")
    static void p15_halt_offOrOnOrBothOnce() {
        // on at stop 1, off at stop 2
        whens("t0209;h9;p0012031;", 1, 28, 43, 67, 91, 106);
        // on at stop 0, off and on at stop 1, off at stop 2
        whens("t0209;h9;p0001021;p0012031;", 1, 28, 52, 76, 100, 115);
        // two on at stop 0
        whens("t0209;h9;p0001021;p0001022;", 1, 28, 52, 76, 91, 106);
        whens("t0209;h9;p0001021;p0001022;", 2, 36, 56, 76, 96, 116);
        // the third alone
        whens("t0209;g02;h9;p0012033;s0;", 2, 24, 34, 53, 72, 82);
    }

    @Keeps(promise = 15, sentence = "of DEPTH 1 and 2 one leaves a STOP at which somebody got off or on HALT MINUTES later")
    static void p15_halt_neverTheFirst_norWhereNobodyMoves() {
        whens("t0209;h9;p0012020;", 0, 20, 30, 40, 50, 60);
        whens("t0209;h9;", 1, 28, 43, 58, 73, 88);
        whens("t0209;h9;", 2, 36, 56, 76, 96, 116);
        // somebody is PUSHED, nobody moves
        whens("t0200;h9;p0012020;", 1, 28, 43, 58, 73, 88);
    }

    @Keeps(promise = 15, sentence = "(HALT 0 .. 9; 2 at first)")
    static void p15_halt_of0IsNone() {
        whens("t0209;h0;p0012031;", 1, 28, 43, 58, 73, 88);
        whens("t0209;p0012031;", 1, 28, 43, 60, 77, 92);
    }

    @Keeps(promise = 15, sentence = "WHEN. -1 (train, DEPTH 0 .. 2, STOP).")
    static void p15_noSuchTrain() {
        for (int train : Refusals.outside(0, 1)) {
            Refusals.refused("when(" + train + ", 0, 0)", x -> x.when(train, 0, 0), -1);
        }
        Check.due("the last of four", Refusals.crowded().when(3, 0, 0), 90);
        Check.due("one beyond four", Refusals.crowded().when(4, 0, 0), -1);
    }

    @Keeps(promise = 15, sentence = "WHEN. -1 (train, DEPTH 0 .. 2, STOP).")
    static void p15_depths0To2() {
        for (int depth : Refusals.outside(0, 2)) {
            Refusals.refused("when(0, " + depth + ", 0)", x -> x.when(0, depth, 0), -1);
        }
        Check.due("DEPTH 2", Check.of("t0209;").when(0, 2, 0), 36);
    }

    @Keeps(promise = 15, sentence = "WHEN. -1 (train, DEPTH 0 .. 2, STOP).")
    static void p15_stops0To4() {
        for (int stop : Refusals.outside(0, 4)) {
            Refusals.refused("when(0, 0, " + stop + ")", x -> x.when(0, 0, stop), -1);
        }
        Check.due("STOP 4", Check.of("t0209;").when(0, 0, 4), 60);
        Check.due("STOP 0 at MINUTE 0", Check.of("t0009;").when(0, 0, 0), 0);
    }

    // ---- promise 16: sums

    private static void sums(String day, int... wants) {
        SlowerForTheLate x = Check.of(day);
        for (int what = 0; what < wants.length; what++) {
            Check.due(day + " sums(" + what + ")", x.sums(what), wants[what]);
        }
    }

    @Keeps(promise = 16, sentence = "all REFUNDS; the latest MINUTE one ARRIVES (0 nobody).")
    static void p16_nobody() {
        sums("s5;", 0, 0, 0, 0, 0, 0);
        sums("t0209;", 0, 0, 0, 0, 0, 0);
        // who is STRANDED does not wait, has no REFUND and does not ARRIVE
        sums("p0001020;", 0, 1, 0, 0, 0, 0);
        sums("t0209;p0001031;", 0, 1, 0, 0, 0, 0);
    }

    @Keeps(promise = 16, sentence = "all that were MISSED (till one got on)")
    static void p16_oneAlone() {
        sums("t0209;p0001015;", 1, 0, 0, 5, 0, 30);
        sums("t0209;p7001021;", 1, 0, 1, 7, 4, 45);
        sums("t0200;p0001020;", 0, 1, 3, 0, 0, 0);
    }

    @Keeps(promise = 16, sentence = "SUMS: how many ARRIVE, are STRANDED;")
    static void p16_allEight() {
        sums("t0209;" + "p0001020;".repeat(8), 8, 0, 0, 0, 0, 30);
        sums("t0200;" + "p0001020;".repeat(8), 0, 8, 24, 0, 0, 0);
    }

    @Keeps(promise = 16, sentence = "all that were MISSED (till one got on)")
    static void p16_missedTillOneGotOn() {
        // the first, then the first and the second, by two who get on then; all three by one who never does
        sums("t0201;p0001020;p0001021;p0001022;", 3, 0, 3, 21, 6, 58);
        sums("t0201;p0001020;p0001021;p0001022;p0001023;", 3, 1, 6, 21, 6, 58);
    }

    @Keeps(promise = 16, sentence = "SUMS: 0 .. 5 as told. -1.")
    static void p16_nothingSuch() {
        for (int what : Refusals.outside(0, 5)) {
            Refusals.refused("sums(" + what + ")", x -> x.sums(what), -1);
        }
    }

    // ---- promise 17: aboard

    @Keeps(promise = 17, sentence = "ABOARD a train behind its leaving a STOP (bits).")
    static void p17_theFirstAndTheLastOfEight() {
        SlowerForTheLate x = Check.of("t0209;" + "p0001020;".repeat(8));
        Check.due("all", x.aboard(0, 0, 0), 255);
        Check.due("none", x.aboard(0, 1, 0), 0);
        SlowerForTheLate last = Check.of("t0201;" + "p0001300;".repeat(7) + "p0001020;");
        Check.due("the last alone", last.aboard(0, 0, 0), 128);
    }

    @Keeps(promise = 17, sentence = "ABOARD a train behind its leaving a STOP (bits).")
    static void p17_behindItsLeaving_atStop4Nobody() {
        SlowerForTheLate x = Check.of("t0209;p0004020;p0034020;p0014020;p0001020;");
        int[] wants = {9, 5, 5, 7, 0};
        for (int stop = 0; stop <= 4; stop++) {
            Check.due("behind stop " + stop, x.aboard(0, 0, stop), wants[stop]);
        }
    }

    @Keeps(promise = 17, sentence = "ABOARD. -1.")
    static void p17_noSuchTrain() {
        for (int train : Refusals.outside(0, 1)) {
            Refusals.refused("aboard(" + train + ", 0, 0)", x -> x.aboard(train, 0, 0), -1);
        }
        Check.due("the last of four", Refusals.crowded().aboard(3, 0, 0), 0);
        Check.due("one beyond four", Refusals.crowded().aboard(4, 0, 0), -1);
    }

    @Keeps(promise = 17, sentence = "ABOARD. -1.")
    static void p17_depths0To2() {
        for (int depth : Refusals.outside(0, 2)) {
            Refusals.refused("aboard(0, " + depth + ", 0)", x -> x.aboard(0, depth, 0), -1);
        }
        Check.due("the third", Check.of("t0209;g02;p0001023;").aboard(0, 2, 0), 1);
    }

    @Keeps(promise = 17, sentence = "ABOARD. -1.")
    static void p17_stops0To4() {
        for (int stop : Refusals.outside(0, 4)) {
            Refusals.refused("aboard(0, 0, " + stop + ")", x -> x.aboard(0, 0, stop), -1);
        }
        Check.due("STOP 3", Check.of("t0209;p0004020;").aboard(0, 0, 3), 1);
        Check.due("STOP 4", Check.of("t0209;p0004020;").aboard(0, 0, 4), 0);
    }

    // ---- promise 18: fullest

    @Keeps(promise = 18, sentence = "FULLEST: the most PLACES taken on it at once.")
    static void p18_nobody() {
        for (int depth = 0; depth < 3; depth++) {
            Check.due("no TRAVELLERS", Check.of("t0209;").fullest(0, depth), 0);
            Check.due("no SEATS", Check.of("t0200;p0001020;").fullest(0, depth), 0);
        }
    }

    @Keeps(promise = 18, sentence = "FULLEST: the most PLACES taken on it at once.")
    static void p18_nobodyAnyMore() {
        SlowerForTheLate x = Check.of("t0202;p7001020;p0001020;");
        Check.due("two", x.fullest(0, 0), 2);
        Check.due("one", x.fullest(0, 1), 1);
        x.leaves(0);
        Check.due("one", x.fullest(0, 0), 1);
        Check.due("none", x.fullest(0, 1), 0);
        x.leaves(0);
        Check.due("none", x.fullest(0, 0), 0);
    }

    @Keeps(promise = 18, sentence = "FULLEST: the most PLACES taken on it at once.")
    static void p18_full() {
        String nine = "p7004020;p7004020;p7004020;p7004020;p0004020;p0004020;";
        int[] wants = {9, 1, 0};
        for (int depth = 0; depth < 3; depth++) {
            Check.due("DEPTH " + depth, Check.of("t0209;" + nine).fullest(0, depth), wants[depth]);
        }
    }

    @Keeps(promise = 18, sentence = "FULLEST: the most PLACES taken on it at once.")
    static void p18_atOnce_whoGetsOffMakesRoomFirst() {
        Check.due("one after the other", Check.of("t0209;p0001020;p0012020;p0023020;p0034020;").fullest(0, 0), 1);
        Check.due("at the first stop", Check.of("t0209;p0001020;p0001020;p7001020;p0012020;").fullest(0, 0), 4);
        Check.due("at the last stop", Check.of("t0209;p0001020;p0034020;p7034020;").fullest(0, 0), 3);
    }

    @Keeps(promise = 18, sentence = "FULLEST. -1.")
    static void p18_noSuchTrain() {
        for (int train : Refusals.outside(0, 1)) {
            Refusals.refused("fullest(" + train + ", 0)", x -> x.fullest(train, 0), -1);
        }
        Check.due("the last of four", Refusals.crowded().fullest(3, 0), 0);
        Check.due("one beyond four", Refusals.crowded().fullest(4, 0), -1);
    }

    @Keeps(promise = 18, sentence = "FULLEST. -1.")
    static void p18_depths0To2() {
        for (int depth : Refusals.outside(0, 2)) {
            Refusals.refused("fullest(0, " + depth + ")", x -> x.fullest(0, depth), -1);
        }
    }
}
