/** Promises 1 and 3 to 13: each sentence of the document that names a bound of the day as told. */
public final class BoundsToldTest {
    private static final String FIRST_AS_TOLD =
        "Answers of several REFUSALS are the first one as they are told at the call.";
    private static final String TRAVELLERS =
        "TRAVELLERS 0 .. 7 as they come (8 at most), of KINDS, each with a FIGURE (0 .. 9), a STOP it comes FROM, one it "
        + "goes TO (FROM below TO), a BASE (0 .. 300).";
    private static final String TRAINS =
        "TRAINS 0 .. 3 as they come (4 at most): a START (0 .. 300: the MINUTE at which its FIRST is at STOP 0), SEATS "
        + "(0 .. 9), CANCELLED or not (not at first).";
    private static final String STOPS_AND_RUNS =
        "STOPS 0 .. 4; PIECES 0 .. 3 between them (PIECE k from STOP k to k and 1), each with RUN (1 .. 60 MINUTES; 10 at "
        + "first).";
    private static final String STAYS = "The ROW of a text, and what is taken from a SHELF, stay there";

    public static void main(String[] args) {
        Sentences.run(BoundsToldTest.class);
    }

    /** One of a KIND with a FIGURE, FROM 0, alone on a new object. */
    private static SlowerForTheLate one(int kind, int figure, int to, int base) {
        SlowerForTheLate x = new SlowerForTheLate();
        x.keep(0, 1, kind, figure);
        x.comes(0, 0, to, base);
        return x;
    }

    // ---- promise 1: a new object

    @Keeps(promise = 1, sentence = "No TRAINS, no TRAVELLERS.")
    static void p01_noTrains() {
        SlowerForTheLate x = new SlowerForTheLate();
        Check.due("count(1)", x.count(1), 0);
        Check.due("count(2)", x.count(2), 0);
        Check.due("about(0, 0)", x.about(0, 0), -1);
        Check.due("cancels(0)", x.cancels(0), -1);
        Check.due("when(0, 0, 0)", x.when(0, 0, 0), -1);
        Check.due("the first is number", x.train(0, 0), 0);
    }

    @Keeps(promise = 1, sentence = "No TRAINS, no TRAVELLERS.")
    static void p01_noTravellers() {
        SlowerForTheLate x = new SlowerForTheLate();
        Check.due("count(0)", x.count(0), 0);
        Check.due("traveller(0, 0)", x.traveller(0, 0), -1);
        Check.due("fate(0, 0)", x.fate(0, 0), -1);
        Check.due("leaves(0)", x.leaves(0), -1);
        x.keep(0, 1, 0, 0);
        Check.due("the first is number", x.comes(0, 0, 1, 0), 0);
    }

    @Keeps(promise = 1, sentence = "An object is used for at most 512 calls after it has been made; what later calls answer is free.")
    static void p01_theLastOf512Calls() {
        SlowerForTheLate x = new SlowerForTheLate();
        x.train(20, 9);
        x.keep(0, 1, 0, 0);
        x.comes(0, 0, 4, 20);
        for (int call = 4; call < 511; call++) {
            Check.due("call " + call, x.came(0, 60, 0), 21);
        }
        Check.due("call 511", x.row(7, 2, 100), 0);
        Check.due("call 512", x.worth(), 60);
    }

    // ---- promise 3: traveller

    @Keeps(promise = 3, sentence = "RUNNER a WALKER's less FIGURE, 0 at least")
    static void p03_comesOfARunner_0AtLeast() {
        Check.due("10 less 9", one(1, 9, 1, 10).traveller(0, 5), 1);
        Check.due("9 less 9", one(1, 9, 1, 9).traveller(0, 5), 0);
        Check.due("8 less 9", one(1, 9, 1, 8).traveller(0, 5), 0);
        Check.due("0 less 9", one(1, 9, 1, 0).traveller(0, 5), 0);
        Check.due("0 less 0", one(1, 0, 1, 0).traveller(0, 5), 0);
    }

    @Keeps(promise = 3, sentence = "STAFF a RUNNER's less 3, 0 at least")
    static void p03_comesOfStaff_0AtLeast() {
        Check.due("13 less 9 less 3", one(4, 9, 1, 13).traveller(0, 5), 1);
        Check.due("12 less 9 less 3", one(4, 9, 1, 12).traveller(0, 5), 0);
        Check.due("11 less 9 less 3", one(4, 9, 1, 11).traveller(0, 5), 0);
        Check.due("0 less 9 less 3", one(4, 9, 1, 0).traveller(0, 5), 0);
        Check.due("2 less 0 less 3", one(4, 0, 1, 2).traveller(0, 5), 0);
        Check.due("4 less 0 less 3", one(4, 0, 1, 4).traveller(0, 5), 1);
    }

    @Keeps(promise = 3, sentence = "TARDY a WALKER's and FIGURE; LOVER a TARDY's and 2")
    static void p03_comesBeyond300() {
        Check.due("TARDY", one(2, 9, 1, 300).traveller(0, 5), 309);
        Check.due("LOVER", one(3, 9, 1, 300).traveller(0, 5), 311);
        Check.due("AIMER", one(6, 9, 1, 300).traveller(0, 5), 309);
        Check.due("TARDY of FIGURE 0", one(2, 0, 1, 0).traveller(0, 5), 0);
        Check.due("LOVER of FIGURE 0", one(3, 0, 1, 0).traveller(0, 5), 2);
    }

    @Keeps(promise = 3, sentence = "SLEEPER half of FIGURE, cut, more")
    static void p03_excuseOfASleeper_cut() {
        int[] wants = {0, 0, 1, 1, 2, 2, 3, 3, 4, 4};
        for (int figure = 0; figure < 10; figure++) {
            Check.due("FIGURE " + figure, one(5, figure, 1, 0).traveller(0, 6), wants[figure]);
        }
    }

    @Keeps(promise = 3, sentence = "AIMER a TARDY's less 1, 0 at least")
    static void p03_excuseOfAnAimer_0AtLeast() {
        int[] wants = {0, 0, 1, 2, 3, 4, 5, 6, 7, 8};
        for (int figure = 0; figure < 10; figure++) {
            Check.due("FIGURE " + figure, one(6, figure, 1, 0).traveller(0, 6), wants[figure]);
        }
    }

    @Keeps(promise = 3, sentence = "OFF (where it gets off): TO; SLEEPER one STOP farther, 4 at most.")
    static void p03_offOfASleeper_4AtMost() {
        int[] wants = {2, 3, 4, 4};
        for (int to = 1; to <= 4; to++) {
            Check.due("SLEEPER TO " + to, one(5, 9, to, 0).traveller(0, 9), wants[to - 1]);
            Check.due("WALKER TO " + to, one(0, 9, to, 0).traveller(0, 9), to);
            Check.due("TO stays", one(5, 9, to, 0).traveller(0, 3), to);
        }
    }

    @Keeps(promise = 3, sentence = "7 PARENT under WALKER.")
    static void p03_kinds0And7() {
        Check.due("KIND 0", one(0, 0, 1, 0).traveller(0, 0), 0);
        Check.due("KIND 7", one(7, 9, 1, 0).traveller(0, 0), 7);
        Check.due("FIGURE 0", one(0, 0, 1, 0).traveller(0, 1), 0);
        Check.due("FIGURE 9", one(7, 9, 1, 0).traveller(0, 1), 9);
    }

    @Keeps(promise = 3, sentence =
        "Of a TRAVELLER: KIND (what 0), FIGURE (1), FROM (2), TO (3), BASE (4), COMES (5), EXCUSE (6), RANK (7), PLACES (8), "
        + "OFF (9). -1.")
    static void p03_noSuchTraveller() {
        for (int t : Refusals.outside(0, 2)) {
            for (int what = 0; what <= 9; what++) {
                Check.due("traveller(" + t + ", " + what + ")", Refusals.sample().traveller(t, what), -1);
            }
            Refusals.refused("traveller(" + t + ", 0)", x -> x.traveller(t, 0), -1);
        }
        Check.due("the last of eight", Refusals.crowded().traveller(7, 0), 7);
        Check.due("one beyond eight", Refusals.crowded().traveller(8, 0), -1);
        Check.due("of none", new SlowerForTheLate().traveller(0, 0), -1);
    }

    @Keeps(promise = 3, sentence =
        "Of a TRAVELLER: KIND (what 0), FIGURE (1), FROM (2), TO (3), BASE (4), COMES (5), EXCUSE (6), RANK (7), PLACES (8), "
        + "OFF (9). -1.")
    static void p03_nothingSuchOfIt() {
        for (int what : Refusals.outside(0, 9)) {
            Refusals.refused("traveller(0, " + what + ")", x -> x.traveller(0, what), -1);
        }
        Check.due("the first", one(7, 3, 2, 5).traveller(0, 0), 7);
        Check.due("the last", one(7, 3, 2, 5).traveller(0, 9), 2);
    }

    // ---- promise 4: takes

    @Keeps(promise = 4, sentence = "AIMER just that of DEPTH FIGURE by 3, cut (of DEPTH 3 none runs).")
    static void p04_anAimer_figureBy3Cut() {
        for (int figure = 0; figure < 10; figure++) {
            for (int depth = 0; depth < 3; depth++) {
                boolean takes = figure >= 3 * depth && figure < 3 * depth + 3;
                Check.due("FIGURE " + figure + ", DEPTH " + depth, one(6, figure, 1, 0).takes(0, depth), takes ? 1 : 0);
            }
        }
        Check.due("FIGURE 9 at DEPTH 3", one(6, 9, 1, 0).takes(0, 3), -1);
        Check.due("no other KIND aims", one(2, 9, 1, 0).takes(0, 0), 1);
    }

    @Keeps(promise = 4, sentence = "\"a by b, cut\" is a divided by b, toward 0")
    static void p04_cutIsTowards0_neverUp() {
        Check.due("2 by 3 is 0", one(6, 2, 1, 0).takes(0, 0), 1);
        Check.due("5 by 3 is 1", one(6, 5, 1, 0).takes(0, 1), 1);
        Check.due("8 by 3 is 2", one(6, 8, 1, 0).takes(0, 2), 1);
    }

    @Keeps(promise = 4, sentence = "Whether it TAKES a train of DEPTH d (0 .. 2): 1, 0. -1.")
    static void p04_noSuchTraveller() {
        for (int t : Refusals.outside(0, 2)) {
            Refusals.refused("takes(" + t + ", 0)", x -> x.takes(t, 0), -1);
        }
        Check.due("of none", new SlowerForTheLate().takes(0, 0), -1);
    }

    @Keeps(promise = 4, sentence = "Whether it TAKES a train of DEPTH d (0 .. 2): 1, 0. -1.")
    static void p04_depths0To2() {
        for (int d : Refusals.outside(0, 2)) {
            Refusals.refused("takes(0, " + d + ")", x -> x.takes(0, d), -1);
        }
        Check.due("DEPTH 0", Refusals.sample().takes(0, 0), 1);
        Check.due("DEPTH 2", Refusals.sample().takes(0, 2), 1);
    }

    // ---- promise 5: refund

    @Keeps(promise = 5, sentence = "TARDY 1 less, 0 at least")
    static void p05_ofATardyOne_0AtLeast() {
        int[] wants = {0, 1, 3};
        for (int kind : new int[] {2, 3, 6}) {
            for (int depth = 0; depth < 3; depth++) {
                Check.due("KIND " + kind + ", DEPTH " + depth, one(kind, 5, 1, 0).refund(0, depth), wants[depth]);
            }
        }
    }

    @Keeps(promise = 5, sentence = "REFUND of DEPTH d (0 .. 2). -1.")
    static void p05_noSuchTraveller() {
        for (int t : Refusals.outside(0, 2)) {
            Refusals.refused("refund(" + t + ", 0)", x -> x.refund(t, 0), -1);
        }
        Check.due("of none", new SlowerForTheLate().refund(0, 0), -1);
    }

    @Keeps(promise = 5, sentence = "REFUND of DEPTH d (0 .. 2). -1.")
    static void p05_depths0To2() {
        for (int d : Refusals.outside(0, 2)) {
            Refusals.refused("refund(0, " + d + ")", x -> x.refund(0, d), -1);
            Check.due("of STAFF, who have none", one(4, 5, 1, 0).refund(0, d), -1);
        }
        Check.due("DEPTH 0", one(7, 0, 1, 0).refund(0, 0), 0);
        Check.due("DEPTH 2", one(7, 0, 1, 0).refund(0, 2), 8);
    }

    // ---- promise 6: comes

    private static final String COMES =
        "The one on SHELF d comes to be a TRAVELLER: its number. -1, -11, -12 (a ROW), -3 FROM not below TO, -2.";

    @Keeps(promise = 6, sentence = COMES)
    static void p06_noSuchShelf() {
        for (int d : Refusals.outside(0, 7)) {
            Refusals.refused("comes(" + d + ", 0, 1, 0)", x -> x.comes(d, 0, 1, 0), -1);
        }
    }

    @Keeps(promise = 6, sentence = COMES)
    static void p06_stops0To4() {
        for (int stop : Refusals.outside(0, 4)) {
            Refusals.refused("comes(1, " + stop + ", 4, 0)", x -> x.comes(Refusals.ONE, stop, 4, 0), -1);
            Refusals.refused("comes(1, 0, " + stop + ", 0)", x -> x.comes(Refusals.ONE, 0, stop, 0), -1);
        }
        Check.due("FROM 0 TO 4", Refusals.sample().comes(Refusals.ONE, 0, 4, 0), 3);
        Check.due("FROM 3 TO 4", Refusals.sample().comes(Refusals.ONE, 3, 4, 0), 3);
    }

    @Keeps(promise = 6, sentence = COMES)
    static void p06_bases0To300() {
        for (int base : Refusals.outside(0, 300)) {
            Refusals.refused("comes(1, 0, 1, " + base + ")", x -> x.comes(Refusals.ONE, 0, 1, base), -1);
        }
        Check.due("BASE 0", Refusals.sample().comes(Refusals.ONE, 0, 1, 0), 3);
        Check.due("BASE 300", Refusals.sample().comes(Refusals.ONE, 0, 1, 300), 3);
    }

    @Keeps(promise = 6, sentence = COMES)
    static void p06_nothingHeld() {
        Refusals.refused("comes of nothing", x -> x.comes(Refusals.NOTHING, 0, 1, 0), -11);
    }

    @Keeps(promise = 6, sentence = COMES)
    static void p06_aRow() {
        Refusals.refused("comes of bytes", x -> x.comes(Refusals.BYTES, 0, 1, 0), -12);
        Refusals.refused("comes of shorts", x -> x.comes(Refusals.SHORTS, 0, 1, 0), -12);
        Refusals.refused("comes of ints", x -> x.comes(Refusals.INTS, 0, 1, 0), -12);
    }

    @Keeps(promise = 6, sentence = COMES)
    static void p06_fromNotBelowTo() {
        for (int from = 0; from <= 4; from++) {
            for (int to = 0; to <= 4; to++) {
                SlowerForTheLate x = Refusals.sample();
                Check.due("FROM " + from + " TO " + to, x.comes(Refusals.ONE, from, to, 0), from < to ? 3 : -3);
                Check.due("how many", x.count(0), from < to ? 4 : 3);
            }
        }
        Refusals.refused("FROM 2 TO 2", x -> x.comes(Refusals.ONE, 2, 2, 0), -3);
        Refusals.refused("FROM 4 TO 0", x -> x.comes(Refusals.ONE, 4, 0, 0), -3);
    }

    @Keeps(promise = 6, sentence = TRAVELLERS)
    static void p06_eightAtMost() {
        SlowerForTheLate x = new SlowerForTheLate();
        x.keep(0, 1, 0, 0);
        for (int t = 0; t < 8; t++) {
            Check.due("the number", x.comes(0, 0, 1, t), t);
        }
        Check.due("a ninth", x.comes(0, 0, 1, 8), -2);
        Check.due("how many", x.count(0), 8);
        Check.due("the last is as it was", x.traveller(7, 4), 7);
        Refusals.refused("a ninth", Refusals::crowded, y -> y.comes(Refusals.ONE, 0, 1, 0), -2);
    }

    @Keeps(promise = 6, sentence = Refusals.NOTHING_CHANGES)
    static void p06_nothingChanges_neverThoughRefusedOften() {
        SlowerForTheLate x = Refusals.crowded();
        for (int time = 0; time < 9; time++) {
            Check.due("-1", x.comes(Refusals.ONE, 0, 1, -1), -1);
            Check.due("-2", x.comes(Refusals.ONE, 0, 1, 0), -2);
            Check.due("-3", x.comes(Refusals.ONE, 1, 1, 0), -3);
        }
        Check.due("all is as it was", Refusals.told(x).equals(Refusals.told(Refusals.crowded())) ? 1 : 0, 1);
    }

    @Keeps(promise = 6, sentence = FIRST_AS_TOLD)
    static void p06_ofSeveral_minus1AheadOfAll() {
        Refusals.refused("nothing held", x -> x.comes(Refusals.NOTHING, -1, 1, 0), -1);
        Refusals.refused("nothing held", x -> x.comes(Refusals.NOTHING, 0, 5, 0), -1);
        Refusals.refused("nothing held", x -> x.comes(Refusals.NOTHING, 0, 1, 301), -1);
        Refusals.refused("a row", x -> x.comes(Refusals.BYTES, 0, 1, 301), -1);
        Refusals.refused("a row, not below", x -> x.comes(Refusals.BYTES, 2, 1, -1), -1);
        Refusals.refused("not below", x -> x.comes(Refusals.ONE, 5, 4, 0), -1);
        Refusals.refused("not below", x -> x.comes(Refusals.ONE, 0, -1, 0), -1);
        Refusals.refused("not below", x -> x.comes(Refusals.ONE, 2, 1, 301), -1);
        Refusals.refused("no room", Refusals::crowded, x -> x.comes(Refusals.ONE, 0, 1, 301), -1);
        Refusals.refused("no room", Refusals::crowded, x -> x.comes(8, 0, 1, 0), -1);
        Refusals.refused("all of them", Refusals::crowded, x -> x.comes(Refusals.NOTHING, 4, 0, -1), -1);
    }

    @Keeps(promise = 6, sentence = FIRST_AS_TOLD)
    static void p06_ofSeveral_nothingHeldAheadOfNotBelowAndNoRoom() {
        Refusals.refused("not below", x -> x.comes(Refusals.NOTHING, 1, 1, 0), -11);
        Refusals.refused("no room", Refusals::crowded, x -> x.comes(Refusals.NOTHING, 0, 1, 0), -11);
        Refusals.refused("both", Refusals::crowded, x -> x.comes(Refusals.NOTHING, 4, 0, 0), -11);
    }

    @Keeps(promise = 6, sentence = FIRST_AS_TOLD)
    static void p06_ofSeveral_aRowAheadOfNotBelowAndNoRoom() {
        Refusals.refused("not below", x -> x.comes(Refusals.BYTES, 1, 1, 0), -12);
        Refusals.refused("no room", Refusals::crowded, x -> x.comes(Refusals.BYTES, 0, 1, 0), -12);
        Refusals.refused("both", Refusals::crowded, x -> x.comes(Refusals.BYTES, 4, 0, 0), -12);
    }

    @Keeps(promise = 6, sentence = FIRST_AS_TOLD)
    static void p06_ofSeveral_notBelowAheadOfNoRoom() {
        Refusals.refused("equal", Refusals::crowded, x -> x.comes(Refusals.ONE, 1, 1, 0), -3);
        Refusals.refused("above", Refusals::crowded, x -> x.comes(Refusals.ONE, 4, 0, 0), -3);
    }

    @Keeps(promise = 6, sentence = STAYS)
    static void p06_whatIsTakenStays() {
        SlowerForTheLate x = new SlowerForTheLate();
        x.keep(0, 1, 2, 3);
        Check.due("one", x.comes(0, 0, 1, 0), 0);
        Check.due("it is there still", x.cost(0), 8);
        Check.due("another", x.comes(0, 1, 2, 0), 1);
        x.leaves(0);
        Check.due("it is there still", x.cost(0), 8);
    }

    // ---- promise 7: leaves

    private static final String LEAVES =
        "A TRAVELLER is there no more (those behind it are one number less): how many are left. -1.";

    @Keeps(promise = 7, sentence = LEAVES)
    static void p07_noSuchTraveller() {
        for (int t : Refusals.outside(0, 2)) {
            Refusals.refused("leaves(" + t + ")", x -> x.leaves(t), -1);
        }
        Refusals.refused("of none", SlowerForTheLate::new, x -> x.leaves(0), -1);
        Refusals.refused("of eight", Refusals::crowded, x -> x.leaves(8), -1);
    }

    @Keeps(promise = 7, sentence = LEAVES)
    static void p07_theLastOfEight() {
        SlowerForTheLate x = Refusals.crowded();
        Check.due("left", x.leaves(7), 7);
        for (int t = 0; t < 7; t++) {
            Check.due("number " + t, x.traveller(t, 0), t);
        }
        Check.due("number 7", x.traveller(7, 0), -1);
        Check.due("there is room again", x.comes(Refusals.ONE, 0, 1, 0), 7);
    }

    @Keeps(promise = 7, sentence = LEAVES)
    static void p07_theFirstOfEight() {
        SlowerForTheLate x = Refusals.crowded();
        Check.due("left", x.leaves(0), 7);
        for (int t = 0; t < 7; t++) {
            Check.due("KIND of number " + t, x.traveller(t, 0), t + 1);
            Check.due("FIGURE of number " + t, x.traveller(t, 1), t + 1);
            Check.due("FROM of number " + t, x.traveller(t, 2), (t + 1) % 4);
            Check.due("TO of number " + t, x.traveller(t, 3), t == 4 ? 3 : 4);
            Check.due("BASE of number " + t, x.traveller(t, 4), 21 + t);
        }
        Check.due("number 7", x.traveller(7, 0), -1);
    }

    @Keeps(promise = 7, sentence = LEAVES)
    static void p07_theOnlyOne() {
        SlowerForTheLate x = one(3, 4, 1, 0);
        Check.due("left", x.leaves(0), 0);
        Check.due("how many", x.count(0), 0);
        Check.due("again", x.leaves(0), -1);
        Check.due("another is number", x.comes(0, 0, 1, 0), 0);
    }

    // ---- promise 8: base

    @Keeps(promise = 8, sentence = "BASE becomes v: what it was. -1.")
    static void p08_noSuchTraveller() {
        for (int t : Refusals.outside(0, 2)) {
            Refusals.refused("base(" + t + ", 5)", x -> x.base(t, 5), -1);
        }
        Check.due("of none", new SlowerForTheLate().base(0, 5), -1);
    }

    @Keeps(promise = 8, sentence = TRAVELLERS)
    static void p08_0To300() {
        SlowerForTheLate x = one(0, 0, 1, 5);
        Check.due("0", x.base(0, 0), 5);
        Check.due("300", x.base(0, 300), 0);
        Check.due("300 is what it was", x.base(0, 1), 300);
        for (int v : Refusals.outside(0, 300)) {
            Refusals.refused("base(0, " + v + ")", y -> y.base(0, v), -1);
        }
    }

    // ---- promise 9: train

    @Keeps(promise = 9, sentence = TRAINS)
    static void p09_starts0To300() {
        for (int start : Refusals.outside(0, 300)) {
            Refusals.refused("train(" + start + ", 1)", x -> x.train(start, 1), -1);
        }
        SlowerForTheLate x = new SlowerForTheLate();
        Check.due("0", x.train(0, 1), 0);
        Check.due("300", x.train(300, 1), 1);
        Check.due("START 0", x.about(0, 0), 0);
        Check.due("START 300", x.about(1, 0), 300);
    }

    @Keeps(promise = 9, sentence = TRAINS)
    static void p09_seats0To9() {
        for (int seats : Refusals.outside(0, 9)) {
            Refusals.refused("train(1, " + seats + ")", x -> x.train(1, seats), -1);
        }
        SlowerForTheLate x = new SlowerForTheLate();
        Check.due("0", x.train(1, 0), 0);
        Check.due("9", x.train(1, 9), 1);
        Check.due("SEATS 0", x.about(0, 1), 0);
        Check.due("SEATS 9", x.about(1, 1), 9);
    }

    @Keeps(promise = 9, sentence = TRAINS)
    static void p09_fourAtMost() {
        SlowerForTheLate x = new SlowerForTheLate();
        for (int train = 0; train < 4; train++) {
            Check.due("the number", x.train(train, train), train);
        }
        Check.due("a fifth", x.train(5, 5), -2);
        Check.due("how many", x.count(1), 4);
        Check.due("the last is as it was", x.about(3, 0), 3);
        Refusals.refused("a fifth", Refusals::crowded, y -> y.train(0, 0), -2);
    }

    @Keeps(promise = 9, sentence = TRAINS)
    static void p09_notCancelledAtFirst() {
        SlowerForTheLate x = new SlowerForTheLate();
        for (int train = 0; train < 4; train++) {
            x.train(0, 0);
            Check.due("train " + train, x.about(train, 2), 0);
        }
        // what has stood in that place ahead of an image must not come through
        SlowerForTheLate y = new SlowerForTheLate();
        y.image();
        y.train(0, 0);
        y.cancels(0);
        y.restore();
        y.train(0, 0);
        Check.due("in place of a cancelled one", y.about(0, 2), 0);
    }

    @Keeps(promise = 9, sentence = "A TRAIN more: its number. -1, -2.")
    static void p09_ofSeveral_minus1AheadOfNoRoom() {
        for (int start : Refusals.outside(0, 300)) {
            Refusals.refused("START " + start, Refusals::crowded, x -> x.train(start, 1), -1);
        }
        for (int seats : Refusals.outside(0, 9)) {
            Refusals.refused("SEATS " + seats, Refusals::crowded, x -> x.train(1, seats), -1);
        }
    }

    // ---- promise 10: about

    @Keeps(promise = 10, sentence = "Of a TRAIN: START (what 0), SEATS (1), 1 CANCELLED (2). -1.")
    static void p10_noSuchTrain() {
        for (int train : Refusals.outside(0, 1)) {
            Refusals.refused("about(" + train + ", 0)", x -> x.about(train, 0), -1);
        }
        Check.due("the last of four", Refusals.crowded().about(3, 0), 90);
        Check.due("one beyond four", Refusals.crowded().about(4, 0), -1);
        Check.due("of none", new SlowerForTheLate().about(0, 0), -1);
    }

    @Keeps(promise = 10, sentence = "Of a TRAIN: START (what 0), SEATS (1), 1 CANCELLED (2). -1.")
    static void p10_nothingSuchOfIt() {
        for (int what : Refusals.outside(0, 2)) {
            Refusals.refused("about(0, " + what + ")", x -> x.about(0, what), -1);
        }
        Check.due("START", Refusals.sample().about(1, 0), 60);
        Check.due("1 CANCELLED", Refusals.sample().about(1, 2), 1);
        Check.due("0 not", Refusals.sample().about(0, 2), 0);
    }

    // ---- promise 11: cancels

    @Keeps(promise = 11, sentence = "A TRAIN is CANCELLED, or not any more: 1, 0. -1.")
    static void p11_noSuchTrain() {
        for (int train : Refusals.outside(0, 1)) {
            Refusals.refused("cancels(" + train + ")", x -> x.cancels(train), -1);
        }
        Refusals.refused("of four", Refusals::crowded, x -> x.cancels(4), -1);
        Check.due("the last of four", Refusals.crowded().cancels(3), 1);
        Check.due("of none", new SlowerForTheLate().cancels(0), -1);
    }

    @Keeps(promise = 11, sentence = "A TRAIN is CANCELLED, or not any more: 1, 0. -1.")
    static void p11_orNotAnyMore() {
        SlowerForTheLate x = new SlowerForTheLate();
        x.train(0, 0);
        int[] wants = {1, 0, 1, 0};
        for (int times = 0; times < wants.length; times++) {
            Check.due("time " + times, x.cancels(0), wants[times]);
            Check.due("about(0, 2)", x.about(0, 2), wants[times]);
        }
    }

    // ---- promise 12: run

    @Keeps(promise = 12, sentence = STOPS_AND_RUNS)
    static void p12_tenAtFirst() {
        for (int piece = 0; piece < 4; piece++) {
            Check.due("piece " + piece, new SlowerForTheLate().run(piece, 1), 10);
        }
        Check.due("all", new SlowerForTheLate().count(7), 40);
    }

    @Keeps(promise = 12, sentence = STOPS_AND_RUNS)
    static void p12_1To60() {
        for (int piece = 0; piece < 4; piece++) {
            SlowerForTheLate x = new SlowerForTheLate();
            Check.due("1", x.run(piece, 1), 10);
            Check.due("60", x.run(piece, 60), 1);
            Check.due("60 is what it was", x.run(piece, 7), 60);
            int k = piece;
            for (int v : Refusals.outside(1, 60)) {
                Refusals.refused("run(" + k + ", " + v + ")", y -> y.run(k, v), -1);
            }
        }
    }

    @Keeps(promise = 12, sentence = STOPS_AND_RUNS)
    static void p12_pieces0To3_eachFromItsStopToTheNext() {
        for (int piece = 0; piece < 4; piece++) {
            SlowerForTheLate x = new SlowerForTheLate();
            x.train(0, 0);
            x.run(piece, 60);
            for (int stop = 0; stop <= 4; stop++) {
                Check.due("stop " + stop + ", piece " + piece, x.when(0, 0, stop), 10 * stop + (stop > piece ? 50 : 0));
            }
        }
    }

    @Keeps(promise = 12, sentence = "RUN of a PIECE becomes v: what it was. -1.")
    static void p12_noSuchPiece() {
        for (int piece : Refusals.outside(0, 3)) {
            Refusals.refused("run(" + piece + ", 5)", x -> x.run(piece, 5), -1);
        }
    }

    // ---- promise 13: set

    private static final String SET = "LATE (what 0), GAP (1), SLOW (2), HALT (3) becomes v: what it was. -1.";

    private static void range(int what, int first, int least, int most) {
        SlowerForTheLate x = new SlowerForTheLate();
        Check.due("at first", x.count(3 + what), first);
        Check.due("the least", x.set(what, least), first);
        Check.due("it is so", x.count(3 + what), least);
        Check.due("the most", x.set(what, most), least);
        Check.due("it is so", x.count(3 + what), most);
        for (int v : Refusals.outside(least, most)) {
            Refusals.refused("set(" + what + ", " + v + ")", y -> y.set(what, v), -1);
        }
    }

    @Keeps(promise = 13, sentence = "LATE (0 .. 30; 10 at first).")
    static void p13_late0To30_10AtFirst() {
        range(0, 10, 0, 30);
    }

    @Keeps(promise = 13, sentence = "(GAP 1 .. 30; 8 at first)")
    static void p13_gap1To30_8AtFirst() {
        range(1, 8, 1, 30);
    }

    @Keeps(promise = 13, sentence = "(SLOW 0 .. 9; 5 at first)")
    static void p13_slow0To9_5AtFirst() {
        range(2, 5, 0, 9);
    }

    @Keeps(promise = 13, sentence = "(HALT 0 .. 9; 2 at first)")
    static void p13_halt0To9_2AtFirst() {
        range(3, 2, 0, 9);
    }

    @Keeps(promise = 13, sentence = SET)
    static void p13_nothingSuch() {
        for (int what : Refusals.outside(0, 3)) {
            Refusals.refused("set(" + what + ", 5)", x -> x.set(what, 5), -1);
        }
    }
}
