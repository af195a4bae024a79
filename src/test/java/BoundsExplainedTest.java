/** Promises 36 to 41: each sentence of the document that names a bound of days explained. */
public final class BoundsExplainedTest {
    private static final String TICKETS =
        "TICKETS: a ROW of numbers tells of TRAVELLERS 0, 1, .. 3 times TRAIN and DEPTH, -1 STRANDED (the least number of the "
        + "SORT is skipped): LATES (0 .. 30) by which all is so: how many; the least; -4.";
    private static final String TICKETS_REFUSED =
        "TICKETS by the ROW in SHELF d: how many (what 0), the least (1; -4). -1, -11, -12 (no ROW), -13 more numbers than "
        + "TRAVELLERS.";
    private static final String FORGED = "FORGED: the first place such that no LATE fits all up to it; -4.";
    private static final String FORGED_REFUSED = "FORGED; -4. -1, -11, -12, -13 likewise.";
    private static final String CAME =
        "CAME: how many BASES (0 .. 300) of one by which it would ARRIVE at a told MINUTE (0 .. 2000; 2000: STRANDED); the "
        + "least; -4.";
    private static final String CAME_REFUSED = "CAME: how many (what 0), the least (1; -4). -1.";
    private static final String SURE =
        "SURE: trains (bits, 3 times TRAIN and DEPTH) that it takes with each of BASE 0 to 9 more; that it takes with some.";
    private static final String JUDGED =
        "JUDGED: a ROW tells of one where it is behind the events of MINUTES 0, 10, 20, ..: a STOP 0 .. 4 (it waits there, or "
        + "has got off there), 5 aboard, 6 it has not come: the first that is not so (the least number of the SORT is "
        + "skipped); -4.";
    private static final String JUDGED_REFUSED = "JUDGED by the ROW in SHELF d; -4. -1, -11, -12 (no ROW).";
    private static final String MORNINGS =
        "MORNINGS with a seed z: n (1 .. 20) DAYS, each BASE more by a DRAW below 10 (by numbers): how many ARRIVE in all; how "
        + "many are STRANDED.";
    private static final String DRAW =
        "A DRAW below n: z becomes z times 1103515245 plus 12345 (an int); (z without its sign's bit over 65536, cut) modulo n.";
    private static final String MORNINGS_REFUSED = "MORNINGS: ARRIVE (what 0), STRANDED (1). -1.";
    private static final String FIRST_AS_TOLD =
        "Answers of several REFUSALS are the first one as they are told at the call.";
    private static final String STAYS = "The ROW of a text, and what is taken from a SHELF, stay there";

    private static final int[] LEAST_OF_SORT = {-128, -32768, Integer.MIN_VALUE};

    public static void main(String[] args) {
        Sentences.run(BoundsExplainedTest.class);
    }

    // ---- promise 36: tickets

    private static void tickets(String day, int sort, int many, int least, int... told) {
        SlowerForTheLate x = Check.of(day);
        Check.write(x, 3, sort, told);
        Check.due(day + " tickets(3, 0)", x.tickets(3, 0), many);
        Check.due(day + " tickets(3, 1)", x.tickets(3, 1), least);
    }

    @Keeps(promise = 36, sentence = TICKETS)
    static void p36_late30IsTried_31IsNot() {
        tickets("t0209;g30;p0001050;", 1, 1, 30, 1);
        tickets("t0209;g30;p0001050;", 1, 30, 0, -1);
        tickets("t0209;g30;p0001051;", 1, 0, -4, 1);
        tickets("t0209;g30;p0001051;", 1, 31, 0, -1);
    }

    @Keeps(promise = 36, sentence = TICKETS)
    static void p36_late0IsTried() {
        tickets("t0209;g01;p0001021;", 1, 1, 0, -1);
        tickets("t0209;g01;p0001021;", 1, 30, 1, 1);
        tickets("t0209;g01;l30;p0001021;", 1, 1, 0, -1);
    }

    @Keeps(promise = 36, sentence = TICKETS)
    static void p36_lateMinus1IsNotTried() {
        // with -1 who is PUSHED back would not have MISSED it, and be STRANDED
        tickets("t0201;p0001020;p0001020;", 1, 0, -4, 0, -1);
        tickets("t0201;p0001020;p0001020;", 1, 31, 0, 0, 1);
    }

    @Keeps(promise = 36, sentence = TICKETS)
    static void p36_noneFits_0AndMinus4() {
        tickets("t0209;p0001020;", 1, 0, -4, 1);
        tickets("t0209;p0001020;", 1, 0, -4, -1);
        tickets("t0209;p0001020;", 1, 31, 0, 0);
    }

    @Keeps(promise = 36, sentence = TICKETS)
    static void p36_numbersMinus1To11() {
        String last = "t0000;t0000;t0000;t0209;g02;p0001023;";
        tickets(last, 0, 28, 3, 11);
        tickets(last, 0, 3, 0, -1);
        tickets(last, 0, 0, -4, 12);
        tickets(last, 0, 0, -4, -2);
    }

    @Keeps(promise = 36, sentence = TICKETS)
    static void p36_theLeastOfTheSortIsSkipped() {
        String day = "t0209;p0001020;p0001020;";
        for (int sort = 0; sort < 3; sort++) {
            int skipped = LEAST_OF_SORT[sort];
            tickets(day, sort, 31, 0, skipped, 0);
            tickets(day, sort, 31, 0, 0, skipped);
            tickets(day, sort, 31, 0, skipped, skipped);
            tickets(day, sort, 0, -4, skipped, 5);
            tickets(day, sort, 0, -4, 5, skipped);
            // one more than the least is not skipped, nor is the greatest
            tickets(day, sort, 0, -4, skipped + 1, 0);
            tickets(day, sort, 0, -4, -(skipped + 1), 0);
        }
    }

    @Keeps(promise = 36, sentence = TICKETS)
    static void p36_theLeastOfANarrowerSortIsNotSkipped() {
        tickets("t0209;p0001020;", 1, 0, -4, -128);
        tickets("t0209;p0001020;", 2, 0, -4, -128);
        tickets("t0209;p0001020;", 2, 0, -4, -32768);
    }

    @Keeps(promise = 36, sentence = "what is put in keeps its lowest bits")
    static void p36_numbersThatWrapAround() {
        tickets("t0209;p0001020;", 0, 31, 0, 128);
        tickets("t0209;p0001020;", 0, 31, 0, 256);
        tickets("p0001020;", 0, 31, 0, 255);
        tickets("t0209;p0001020;", 1, 31, 0, 32768);
        tickets("t0209;p0001020;", 1, 31, 0, 65536);
        tickets("t0209;p0001020;", 1, 0, -4, 256);
        tickets("t0209;p0001020;", 2, 0, -4, 65536);
    }

    @Keeps(promise = 36, sentence = TICKETS)
    static void p36_noNumbers() {
        for (int sort = 0; sort < 3; sort++) {
            tickets("t0209;p0001020;", sort, 31, 0);
            tickets("s5;", sort, 31, 0);
        }
    }

    @Keeps(promise = 36, sentence = TICKETS_REFUSED)
    static void p36_noSuchShelf() {
        for (int d : Refusals.outside(0, 7)) {
            Refusals.refused("tickets(" + d + ", 0)", x -> x.tickets(d, 0), -1);
        }
    }

    @Keeps(promise = 36, sentence = TICKETS_REFUSED)
    static void p36_nothingSuch() {
        for (int what : Refusals.outside(0, 1)) {
            Refusals.refused("tickets(3, " + what + ")", x -> x.tickets(Refusals.SHORTS, what), -1);
        }
    }

    @Keeps(promise = 36, sentence = TICKETS_REFUSED)
    static void p36_nothingHeld() {
        Refusals.refused("tickets(0, 0)", x -> x.tickets(Refusals.NOTHING, 0), -11);
        Refusals.refused("tickets(0, 1)", x -> x.tickets(Refusals.NOTHING, 1), -11);
    }

    @Keeps(promise = 36, sentence = TICKETS_REFUSED)
    static void p36_noRow() {
        Refusals.refused("tickets(1, 0)", x -> x.tickets(Refusals.ONE, 0), -12);
        Refusals.refused("tickets(1, 1)", x -> x.tickets(Refusals.ONE, 1), -12);
    }

    @Keeps(promise = 36, sentence = TICKETS_REFUSED)
    static void p36_moreNumbersThanTravellers() {
        // five bytes, three shorts, three TRAVELLERS
        Refusals.refused("five of three", x -> x.tickets(Refusals.BYTES, 0), -13);
        Refusals.refused("five of three", x -> x.tickets(Refusals.BYTES, 1), -13);
        Check.due("three of three", Refusals.sample().tickets(Refusals.SHORTS, 0), 0);
        int[] sizes = {8, 9, 100};
        int[] wants = {0, -13, -13};
        for (int i = 0; i < sizes.length; i++) {
            SlowerForTheLate x = Check.of("t0209;" + "p0001020;".repeat(8));
            x.row(0, 0, sizes[i]);
            Check.due(sizes[i] + " of eight", x.tickets(0, 1), wants[i]);
        }
        SlowerForTheLate nobody = new SlowerForTheLate();
        nobody.row(0, 0, 1);
        Check.due("one of none", nobody.tickets(0, 0), -13);
    }

    @Keeps(promise = 36, sentence = FIRST_AS_TOLD)
    static void p36_ofSeveral_inTheirOrder() {
        for (int what : new int[] {-1, 2}) {
            Refusals.refused("no such what, no such shelf", x -> x.tickets(8, what), -1);
            Refusals.refused("no such what, nothing held", x -> x.tickets(Refusals.NOTHING, what), -1);
            Refusals.refused("no such what, no ROW", x -> x.tickets(Refusals.ONE, what), -1);
            Refusals.refused("no such what, more numbers", x -> x.tickets(Refusals.BYTES, what), -1);
        }
    }

    @Keeps(promise = 36, sentence = STAYS)
    static void p36_theRowStays() {
        SlowerForTheLate x = Refusals.sample();
        String told = Refusals.told(Refusals.sample());
        x.tickets(Refusals.SHORTS, 0);
        x.forged(Refusals.SHORTS);
        x.judge(0, Refusals.BYTES);
        Check.due("all is as it was", told.equals(Refusals.told(x)) ? 1 : 0, 1);
    }

    // ---- promise 37: forged

    private static void forged(String day, int sort, int want, int... told) {
        SlowerForTheLate x = Check.of(day);
        Check.write(x, 3, sort, told);
        Check.due(day + " forged(3)", x.forged(3), want);
    }

    @Keeps(promise = 37, sentence = FORGED)
    static void p37_theFirstPlaceAndTheLast() {
        String day = "t0209;" + "p0001020;".repeat(8);
        forged(day, 1, 0, 1, 0, 0, 0, 0, 0, 0, 0);
        forged(day, 1, 7, 0, 0, 0, 0, 0, 0, 0, 1);
        forged(day, 1, 3, 0, 0, 0, 1, 0, 0, 0, 1);
        forged(day, 1, -4, 0, 0, 0, 0, 0, 0, 0, 0);
        forged(day, 1, 0, -1);
        forged(day, 1, 0, -2);
    }

    @Keeps(promise = 37, sentence = FORGED)
    static void p37_allUpToIt_thoughEachAloneWouldDo() {
        // the first is STRANDED with 0 and 1, the other gets on with 4 and more
        String day = "t0209;g05;p0001022;p0001024;";
        forged(day, 1, 1, -1, 1);
        forged(day, 1, -4, 1, -1);
        forged(day, 1, -4, -1, -1);
        forged(day, 1, -4, 1, 1);
    }

    @Keeps(promise = 37, sentence = FORGED)
    static void p37_late0AndLate30AreTried_31IsNot() {
        forged("t0209;g30;p0001050;", 1, -4, 1);
        forged("t0209;g30;p0001051;", 1, 0, 1);
        forged("t0209;g01;p0001021;", 1, -4, -1);
    }

    @Keeps(promise = 37, sentence = FORGED)
    static void p37_lateMinus1IsNotTried() {
        forged("t0201;p0001020;p0001020;", 1, 1, 0, -1);
        forged("t0201;p0001020;p0001020;", 1, -4, 0, 1);
    }

    @Keeps(promise = 37, sentence = FORGED)
    static void p37_noNumbers() {
        forged("t0209;p0001020;", 0, -4);
        forged("s5;", 2, -4);
    }

    @Keeps(promise = 37, sentence = TICKETS)
    static void p37_theLeastOfTheSortIsSkipped() {
        for (int sort = 0; sort < 3; sort++) {
            int skipped = LEAST_OF_SORT[sort];
            forged("t0209;p0001020;p0001020;", sort, -4, skipped, skipped);
            forged("t0209;p0001020;p0001020;", sort, 1, skipped, 1);
            forged("t0209;p0001020;p0001020;", sort, 0, skipped + 1, skipped);
        }
        forged("t0209;p0001020;", 1, 0, -128);
        forged("t0209;p0001020;", 2, 0, -32768);
    }

    @Keeps(promise = 37, sentence = FORGED_REFUSED)
    static void p37_noSuchShelf() {
        for (int d : Refusals.outside(0, 7)) {
            Refusals.refused("forged(" + d + ")", x -> x.forged(d), -1);
        }
    }

    @Keeps(promise = 37, sentence = FORGED_REFUSED)
    static void p37_nothingHeld() {
        Refusals.refused("forged(0)", x -> x.forged(Refusals.NOTHING), -11);
    }

    @Keeps(promise = 37, sentence = FORGED_REFUSED)
    static void p37_noRow() {
        Refusals.refused("forged(1)", x -> x.forged(Refusals.ONE), -12);
    }

    @Keeps(promise = 37, sentence = FORGED_REFUSED)
    static void p37_moreNumbersThanTravellers() {
        Refusals.refused("five of three", x -> x.forged(Refusals.BYTES), -13);
        Check.due("three of three", Refusals.sample().forged(Refusals.SHORTS), 0);
        int[] sizes = {8, 9, 100};
        int[] wants = {-4, -13, -13};
        for (int i = 0; i < sizes.length; i++) {
            SlowerForTheLate x = Check.of("t0209;" + "p0001020;".repeat(8));
            x.row(0, 0, sizes[i]);
            Check.due(sizes[i] + " of eight", x.forged(0), wants[i]);
        }
        SlowerForTheLate nobody = new SlowerForTheLate();
        nobody.row(0, 0, 1);
        Check.due("one of none", nobody.forged(0), -13);
    }

    // ---- promise 38: came

    private static void came(String day, int minute, int many, int least) {
        SlowerForTheLate x = Check.of(day);
        Check.due(day + " came(0, " + minute + ", 0)", x.came(0, minute, 0), many);
        Check.due(day + " came(0, " + minute + ", 1)", x.came(0, minute, 1), least);
    }

    @Keeps(promise = 38, sentence = CAME)
    static void p38_bases0To300() {
        came("t3009;p0001150;", 310, 301, 0);
        came("t2999;l00;p0001150;", 309, 300, 0);
        came("t2999;l00;p0001150;", 2000, 1, 300);
        came("t0009;l00;p0001150;", 10, 1, 0);
        came("t0009;l00;p0001150;", 2000, 300, 1);
    }

    @Keeps(promise = 38, sentence = CAME)
    static void p38_minutes0To2000() {
        came("t0009;p0001150;", 0, 0, -4);
        came("t0009;p0001150;", 1, 0, -4);
        came("p0001150;", 1999, 0, -4);
        came("p0001150;", 2000, 301, 0);
        for (int minute : Refusals.outside(0, 2000)) {
            Refusals.refused("came(0, " + minute + ", 0)", x -> x.came(0, minute, 0), -1);
            Refusals.refused("came(0, " + minute + ", 1)", x -> x.came(0, minute, 1), -1);
        }
    }

    @Keeps(promise = 38, sentence = CAME)
    static void p38_2000IsStranded() {
        came("t3009;p0001150;", 2000, 0, -4);
        came("t0209;p0001150;", 2000, 270, 31);
    }

    @Keeps(promise = 38, sentence = CAME_REFUSED)
    static void p38_noSuchTraveller() {
        for (int t : Refusals.outside(0, 2)) {
            Refusals.refused("came(" + t + ", 60, 0)", x -> x.came(t, 60, 0), -1);
        }
        Check.due("one beyond eight", Refusals.crowded().came(8, 60, 0), -1);
    }

    @Keeps(promise = 38, sentence = CAME_REFUSED)
    static void p38_nothingSuch() {
        for (int what : Refusals.outside(0, 1)) {
            Refusals.refused("came(0, 60, " + what + ")", x -> x.came(0, 60, what), -1);
        }
    }

    // ---- promise 39: sure

    private static void sure(String day, int each, int some) {
        SlowerForTheLate x = Check.of(day);
        Check.due(day + " sure(0, 0)", x.sure(0, 0), each);
        Check.due(day + " sure(0, 1)", x.sure(0, 1), some);
    }

    @Keeps(promise = 39, sentence = SURE)
    static void p39_bases0To9More() {
        sure("t0209;l00;p0001011;", 1, 1);
        sure("t0209;l00;p0001012;", 0, 1);
        sure("t0209;p0001011;", 1, 1);
        sure("t0209;p0001012;", 0, 3);
        // in time with 0 more alone; with none
        sure("t0209;l00;p0001020;", 0, 1);
        sure("t0209;l00;p0001021;", 0, 0);
    }

    @Keeps(promise = 39, sentence = SURE)
    static void p39_theLastTrainOfAll() {
        sure("t0009;t0009;t0009;t0509;g05;p6801042;", 2048, 2048);
    }

    @Keeps(promise = 39, sentence = SURE)
    static void p39_none() {
        sure("p0001020;", 0, 0);
        sure("t0200;p0001011;", 0, 0);
    }

    @Keeps(promise = 39, sentence = SURE)
    static void p39_beyond300() {
        sure("t3009;g10;p0001300;", 0, 3);
        sure("t3009;g09;x0;p0001300;", 2, 2);
        sure("t3009;g08;x0;p0001300;", 0, 6);
    }

    @Keeps(promise = 39, sentence = "SURE: with each (what 0), with some (1). -1.")
    static void p39_noSuchTraveller() {
        for (int t : Refusals.outside(0, 2)) {
            Refusals.refused("sure(" + t + ", 0)", x -> x.sure(t, 0), -1);
        }
        Check.due("one beyond eight", Refusals.crowded().sure(8, 0), -1);
    }

    @Keeps(promise = 39, sentence = "SURE: with each (what 0), with some (1). -1.")
    static void p39_nothingSuch() {
        for (int what : Refusals.outside(0, 1)) {
            Refusals.refused("sure(0, " + what + ")", x -> x.sure(0, what), -1);
        }
    }

    // ---- promise 40: judge

    private static void judge(String day, int sort, int want, int... told) {
        SlowerForTheLate x = Check.of(day);
        Check.write(x, 2, sort, told);
        Check.due(day + " judge(0, 2)", x.judge(0, 2), want);
    }

    /** The row is so; any other number in its last place is not. */
    private static void judged(String day, int... told) {
        judge(day, 1, -4, told);
        int last = told.length - 1;
        for (int other = -1; other <= 7; other++) {
            int[] row = told.clone();
            row[last] = other;
            judge(day, 1, other == told[last] ? -4 : last, row);
        }
    }

    @Keeps(promise = 40, sentence = JUDGED)
    static void p40_behindTheEventsOfThatVeryMinute() {
        String day = "t0209;p0001010;";
        judged(day, 6);
        judged(day, 6, 0);
        judged(day, 6, 0, 5);
        judged(day, 6, 0, 5, 1);
        judged(day, 6, 0, 5, 1, 1);
    }

    @Keeps(promise = 40, sentence = JUDGED)
    static void p40_notYetBehindThoseOfTheNextMinute() {
        // comes at 11, on at 21, off at 31
        String day = "t0219;p0001011;";
        judged(day, 6, 6);
        judged(day, 6, 6, 0);
        judged(day, 6, 6, 0, 5);
        judged(day, 6, 6, 0, 5, 1);
    }

    @Keeps(promise = 40, sentence = JUDGED)
    static void p40_stops0To4() {
        judged("t0209;p0034000;", 3, 3, 3, 3, 3, 5, 4);
        judged("t0009;p0001000;", 5, 1);
        judged("p0001000;", 0, 0);
        judged("t0209;p5012000;", 1, 1, 1, 5, 5, 3);
    }

    @Keeps(promise = 40, sentence = JUDGED)
    static void p40_strandedItWaits() {
        judged("p0023010;", 6, 2, 2, 2);
        judged("t0200;p0001010;", 6, 0, 0, 0);
    }

    @Keeps(promise = 40, sentence = JUDGED)
    static void p40_theFirstThatIsNotSo() {
        judge("t0209;p0001010;", 1, 0, 0, 0, 5, 1);
        judge("t0209;p0001010;", 1, 1, 6, 6, 6, 6);
        judge("t0209;p0001010;", 1, 3, 6, 0, 5, 5);
        judge("t0209;p0001010;", 1, 2, 6, 0, 0, 7);
    }

    @Keeps(promise = 40, sentence = JUDGED)
    static void p40_theLeastOfTheSortIsSkipped() {
        for (int sort = 0; sort < 3; sort++) {
            int skipped = LEAST_OF_SORT[sort];
            judge("t0209;p0001010;", sort, -4, skipped, skipped, skipped);
            judge("t0209;p0001010;", sort, 2, skipped, skipped, 0);
            judge("t0209;p0001010;", sort, 0, skipped + 1, 0);
            judge("t0209;p0001010;", sort, 0, -(skipped + 1), 0);
        }
        judge("t0209;p0001010;", 1, 0, -128);
        judge("t0209;p0001010;", 2, 0, -32768);
    }

    @Keeps(promise = 40, sentence = JUDGED)
    static void p40_noNumbers() {
        for (int sort = 0; sort < 3; sort++) {
            judge("t0209;p0001010;", sort, -4);
        }
    }

    @Keeps(promise = 40, sentence = JUDGED)
    static void p40_aHundredNumbers_moreThanTravellers() {
        SlowerForTheLate x = Check.of("p0012295;");
        x.row(0, 2, 100);
        for (int i = 0; i < 100; i++) {
            x.put(0, i, i < 30 ? 6 : 1);
        }
        Check.due("up to MINUTE 990", x.judge(0, 0), -4);
        x.put(0, 99, 2);
        Check.due("the last", x.judge(0, 0), 99);
    }

    @Keeps(promise = 40, sentence = JUDGED_REFUSED)
    static void p40_noSuchTraveller() {
        for (int t : Refusals.outside(0, 2)) {
            Refusals.refused("judge(" + t + ", 2)", x -> x.judge(t, Refusals.BYTES), -1);
        }
        Check.due("one beyond eight", Refusals.crowded().judge(8, Refusals.BYTES), -1);
    }

    @Keeps(promise = 40, sentence = JUDGED_REFUSED)
    static void p40_noSuchShelf() {
        for (int d : Refusals.outside(0, 7)) {
            Refusals.refused("judge(0, " + d + ")", x -> x.judge(0, d), -1);
        }
    }

    @Keeps(promise = 40, sentence = JUDGED_REFUSED)
    static void p40_nothingHeld() {
        Refusals.refused("judge(0, 0)", x -> x.judge(0, Refusals.NOTHING), -11);
    }

    @Keeps(promise = 40, sentence = JUDGED_REFUSED)
    static void p40_noRow() {
        Refusals.refused("judge(0, 1)", x -> x.judge(0, Refusals.ONE), -12);
    }

    @Keeps(promise = 40, sentence = FIRST_AS_TOLD)
    static void p40_ofSeveral_inTheirOrder() {
        for (int t : Refusals.outside(0, 2)) {
            Refusals.refused("no such one, no such shelf", x -> x.judge(t, 8), -1);
            Refusals.refused("no such one, nothing held", x -> x.judge(t, Refusals.NOTHING), -1);
            Refusals.refused("no such one, no ROW", x -> x.judge(t, Refusals.ONE), -1);
        }
    }

    // ---- promise 41: mornings

    private static void mornings(String day, int n, int z, int arrive, int stranded) {
        SlowerForTheLate x = Check.of(day);
        Check.due(day + " mornings(" + n + ", " + z + ", 0)", x.mornings(n, z, 0), arrive);
        Check.due(day + " mornings(" + n + ", " + z + ", 1)", x.mornings(n, z, 1), stranded);
    }

    /** One that takes the first at 20 or none tells its first draw. */
    private static void draws(int z, int draw) {
        mornings("t0209;p60010" + (20 - draw) + ";", 1, z, 1, 0);
        mornings("t0209;p60010" + (21 - draw) + ";", 1, z, 0, 1);
    }

    @Keeps(promise = 41, sentence = DRAW)
    static void p41_anIntThatWrapsAround() {
        draws(0, 0);
        draws(1, 8);
        draws(1073741824, 4);
        draws(12345, 8);
        draws(65535, 8);
    }

    @Keeps(promise = 41, sentence = DRAW)
    static void p41_withoutItsSignsBit() {
        draws(-1, 9);
        draws(-65536, 1);
        draws(-2, 9);
        draws(Integer.MAX_VALUE, 9);
        draws(Integer.MIN_VALUE, 0);
    }

    @Keeps(promise = 41, sentence = MORNINGS)
    static void p41_drawsBelow10_0And9() {
        // the seed 1 draws 8 8 3 5 1 7 0 9 2 6; with BASE 15 a draw of 5 at most will do
        int[] arrive = {0, 0, 1, 2, 3, 3, 4, 4, 5, 5};
        for (int n = 1; n <= 10; n++) {
            mornings("t0209;p6001015;", n, 1, arrive[n - 1], n - arrive[n - 1]);
        }
        mornings("t0209;p6001011;", 10, 1, 10, 0);
        mornings("t0209;p6001012;", 10, 1, 9, 1);
        mornings("t0209;p6001020;", 10, 1, 1, 9);
        mornings("t0209;p6001021;", 10, 1, 0, 10);
    }

    @Keeps(promise = 41, sentence = MORNINGS)
    static void p41_days1To20() {
        mornings("t0209;p0001000;", 1, 7, 1, 0);
        mornings("t0209;p0001000;", 20, 7, 20, 0);
        mornings("t0209;" + "p0001000;".repeat(8), 20, 7, 160, 0);
        mornings("p0001000;".repeat(8), 20, 7, 0, 160);
        for (int n : Refusals.outside(1, 20)) {
            Refusals.refused("mornings(" + n + ", 1, 0)", x -> x.mornings(n, 1, 0), -1);
            Refusals.refused("mornings(" + n + ", 1, 1)", x -> x.mornings(n, 1, 1), -1);
        }
    }

    @Keeps(promise = 41, sentence = MORNINGS)
    static void p41_nobody() {
        mornings("t0209;", 20, 7, 0, 0);
        mornings("s5;", 1, 7, 0, 0);
    }

    @Keeps(promise = 41, sentence = MORNINGS)
    static void p41_basesBeyond300() {
        // the seed 0 draws 0, the seed 1 draws 8
        mornings("t3009;p6001300;", 1, 0, 1, 0);
        mornings("t3009;p6001300;", 1, 1, 0, 1);
        mornings("t3009;p0001300;", 1, 1, 1, 0);
    }

    @Keeps(promise = 41, sentence = MORNINGS_REFUSED)
    static void p41_nothingSuch() {
        for (int what : Refusals.outside(0, 1)) {
            Refusals.refused("mornings(1, 1, " + what + ")", x -> x.mornings(1, 1, what), -1);
        }
    }
}
