/** Promise 2: each sentence of the document that names a bound of the text of a day. */
public final class BoundsTextTest {
    private static final String FORM =
        "kind 1 the place of the first byte with which no DAY can go on (the end, if something lacks): -1000 less the place";
    private static final String SENSE =
        "else kind 2 the place of the letter of the first STATEMENT that is not as it must be (a number out of range, "
        + "no such one, FROM not below TO, no room): -2000 less the place.";
    private static final String IN_TURN =
        "STATEMENTS are tried one behind the other, each on what those ahead of it made, and the first that can't be "
        + "done so is told (kind 2).";
    private static final String ALL_OR_NOTHING = "Without FAULT all of it comes, with one nothing.";
    private static final String AS_MANY_DIGITS = "numbers in THE TEXT have just as many digits as told";
    private static final String REFUSALS =
        "The text in SHELF d: how many STATEMENTS; the FAULT. -1, -11, -12 (no ROW of bytes).";

    private static final String FOUR_TRAINS = "t0000;t0000;t0000;t0000;";
    private static final String EIGHT_TRAVELLERS = "p0001000;".repeat(8);

    public static void main(String[] args) {
        Sentences.run(BoundsTextTest.class);
    }

    private static long day(SlowerForTheLate x, String text) {
        Check.write(x, 0, text);
        return x.day(0);
    }

    /** The answer on a new object; a FAULT is told with nothing changed by the tests of that sentence. */
    private static void day(String text, long want) {
        Check.due("day of " + text, day(new SlowerForTheLate(), text), want);
    }

    private static void form(String text, int place) {
        day(text, -1000 - place);
    }

    private static void sense(String text, int place) {
        day(text, -2000 - place);
    }

    // ---- statements

    @Keeps(promise = 2, sentence = "STATEMENTS, each with \";\" behind, one at least")
    static void p02_oneAtLeast_noneIsAFaultAtPlace0() {
        form("", 0);
        day("s1;", 1);
    }

    @Keeps(promise = 2, sentence = "STATEMENTS, each with \";\" behind, one at least")
    static void p02_eachWithASemicolonBehind_theLastToo() {
        form("s1", 2);
        form("s1s2;", 2);
        form("s1;s2", 5);
        form("s1,", 2);
        form(";", 0);
        form("s1;;", 3);
    }

    @Keeps(promise = 2, sentence = "A ROW has a SORT (0 bytes, 1 shorts, 2 ints) and 0 .. 100 elements")
    static void p02_aFullRowOf100Bytes() {
        day("s0;".repeat(32) + "l00;", 33);
        form("s0;".repeat(33) + "s", 100);
        form("s0;".repeat(32) + "l000", 99);
        sense("s0;".repeat(32) + "l31;", 96);
    }

    // ---- kind 1: the form

    @Keeps(promise = 2, sentence = FORM)
    static void p02_firstByteWithWhichNoDayCanGoOn_aLetter() {
        for (String other : new String[] {"q", "R", "P", "a", "z", "0", " ", "\0", "\177", "\200", "\377"}) {
            form(other + "010;", 0);
            form("s1;h1;" + other + "010;", 6);
            form("s1;h1;" + other, 6);
        }
    }

    @Keeps(promise = 2, sentence = FORM)
    static void p02_theEndIfSomethingLacks() {
        for (String whole : new String[] {"r010;", "t0000;", "p0001000;", "l00;", "g01;", "s0;", "h0;"}) {
            for (int n = 1; n < whole.length(); n++) {
                form(whole.substring(0, n), n);
                form("s1;" + whole.substring(0, n), 3 + n);
            }
            day(whole, 1);
        }
        form("t0000;x", 7);
        form("t0000;x0", 8);
        day("t0000;x0;", 2);
    }

    /** Fewer digits, more, and what stands next to the digits, at each of their places. */
    private static void digits(String letter, int n, long zeros, long nines) {
        for (int k = 0; k < n; k++) {
            form(letter + "1".repeat(k) + ";", 1 + k);
            for (String other : new String[] {"/", ":", " ", "-", "+", ".", "a", "\0", "\200", "\260", "\271", "\377"}) {
                form(letter + "1".repeat(k) + other + "1".repeat(n - k - 1) + ";", 1 + k);
            }
        }
        form(letter + "1".repeat(n + 1) + ";", 1 + n);
        form(letter + "1".repeat(n) + " ;", 1 + n);
        day(letter + "0".repeat(n) + ";", zeros);
        day(letter + "9".repeat(n) + ";", nines);
    }

    @Keeps(promise = 2, sentence = "\"r\" a PIECE (a digit), RUN (2 digits)")
    static void p02_r_justThreeDigits() {
        digits("r", 3, -2000, -2000);
    }

    @Keeps(promise = 2, sentence = "\"t\" START (3 digits), SEATS (a digit): a TRAIN more")
    static void p02_t_justFourDigits() {
        digits("t", 4, 1, -2000);
    }

    @Keeps(promise = 2, sentence = "\"p\" KIND, FIGURE, FROM, TO (a digit each), BASE (3 digits): a TRAVELLER more")
    static void p02_p_justSevenDigits() {
        digits("p", 7, -2000, -2000);
    }

    @Keeps(promise = 2, sentence = "\"l\" LATE (2 digits)")
    static void p02_l_justTwoDigits() {
        digits("l", 2, 1, -2000);
    }

    @Keeps(promise = 2, sentence = "\"g\" GAP (2 digits)")
    static void p02_g_justTwoDigits() {
        digits("g", 2, -2000, -2000);
    }

    @Keeps(promise = 2, sentence = "\"s\" SLOW (a digit)")
    static void p02_s_justOneDigit() {
        digits("s", 1, 1, 1);
    }

    @Keeps(promise = 2, sentence = "\"h\" HALT (a digit)")
    static void p02_h_justOneDigit() {
        digits("h", 1, 1, 1);
    }

    @Keeps(promise = 2, sentence = "\"x\" a TRAIN (a digit): it is CANCELLED, or, told again, not.")
    static void p02_x_justOneDigit() {
        digits("x", 1, -2000, -2000);
    }

    @Keeps(promise = 2, sentence = AS_MANY_DIGITS)
    static void p02_asManyDigitsAsTold_leadingNoughtsAreNeeded() {
        form("l5;", 2);
        day("l05;", 1);
        form("l005;", 3);
        form("t50;", 3);
        day("t0050;", 1);
        form("t00050;", 5);
    }

    // ---- kind 2: the sense

    @Keeps(promise = 2, sentence = SENSE)
    static void p02_r_pieces0To3_runs1To60() {
        day("r001;", 1);
        day("r301;", 1);
        day("r060;", 1);
        day("r360;", 1);
        sense("r401;", 0);
        sense("r901;", 0);
        sense("r000;", 0);
        sense("r061;", 0);
        sense("r099;", 0);
    }

    @Keeps(promise = 2, sentence = SENSE)
    static void p02_t_starts0To300_seats0To9() {
        day("t0000;", 1);
        day("t3009;", 1);
        day("t3000;", 1);
        sense("t3010;", 0);
        sense("t3019;", 0);
        sense("t9990;", 0);
    }

    @Keeps(promise = 2, sentence = SENSE)
    static void p02_p_kinds0To7() {
        day("p0001000;", 1);
        day("p7001000;", 1);
        sense("p8001000;", 0);
        sense("p9001000;", 0);
    }

    @Keeps(promise = 2, sentence = SENSE)
    static void p02_p_figures0To9() {
        day("p0001000;", 1);
        day("p0901000;", 1);
    }

    @Keeps(promise = 2, sentence = SENSE)
    static void p02_p_stops0To4_fromBelowTo() {
        day("p0001000;", 1);
        day("p0004000;", 1);
        day("p0034000;", 1);
        sense("p0005000;", 0);
        sense("p0035000;", 0);
        sense("p0009000;", 0);
        sense("p0045000;", 0);
        sense("p0089000;", 0);
        for (int stop = 0; stop <= 4; stop++) {
            sense("p00" + stop + stop + "000;", 0);
        }
        sense("p0010000;", 0);
        sense("p0043000;", 0);
        sense("p0040000;", 0);
    }

    @Keeps(promise = 2, sentence = SENSE)
    static void p02_p_bases0To300() {
        day("p0001000;", 1);
        day("p0001300;", 1);
        sense("p0001301;", 0);
        sense("p0001999;", 0);
    }

    @Keeps(promise = 2, sentence = SENSE)
    static void p02_l_0To30() {
        day("l00;", 1);
        day("l30;", 1);
        sense("l31;", 0);
        sense("l99;", 0);
    }

    @Keeps(promise = 2, sentence = SENSE)
    static void p02_g_1To30() {
        day("g01;", 1);
        day("g30;", 1);
        sense("g00;", 0);
        sense("g31;", 0);
        sense("g99;", 0);
    }

    @Keeps(promise = 2, sentence = SENSE)
    static void p02_s_0To9() {
        SlowerForTheLate x = new SlowerForTheLate();
        Check.due("s9;", day(x, "s9;"), 1);
        Check.due("SLOW", x.count(5), 9);
        Check.due("s0;", day(x, "s0;"), 1);
        Check.due("SLOW", x.count(5), 0);
    }

    @Keeps(promise = 2, sentence = SENSE)
    static void p02_h_0To9() {
        SlowerForTheLate x = new SlowerForTheLate();
        Check.due("h9;", day(x, "h9;"), 1);
        Check.due("HALT", x.count(6), 9);
        Check.due("h0;", day(x, "h0;"), 1);
        Check.due("HALT", x.count(6), 0);
    }

    @Keeps(promise = 2, sentence = SENSE)
    static void p02_x_noSuchTrain() {
        sense("x0;", 0);
        sense("t0000;x1;", 6);
        sense(FOUR_TRAINS + "x4;", 24);
        sense(FOUR_TRAINS + "x9;", 24);
        day(FOUR_TRAINS + "x3;", 5);
    }

    @Keeps(promise = 2, sentence = SENSE)
    static void p02_noRoom_forAFifthTrain() {
        day(FOUR_TRAINS, 4);
        sense(FOUR_TRAINS + "t0000;", 24);
        sense("s1;" + FOUR_TRAINS + "t0000;s2;", 27);
        SlowerForTheLate x = new SlowerForTheLate();
        for (int train = 0; train < 3; train++) {
            x.train(0, 0);
        }
        Check.due("two on three", day(x, "t0000;t0000;"), -2006);
        Check.due("trains", x.count(1), 3);
        Check.due("one on three", day(x, "t0000;"), 1);
        Check.due("one on four", day(x, "t0000;"), -2000);
    }

    @Keeps(promise = 2, sentence = SENSE)
    static void p02_noRoom_forANinthTraveller() {
        day(EIGHT_TRAVELLERS, 8);
        sense(EIGHT_TRAVELLERS + "p0001000;", 72);
        sense("s1;" + EIGHT_TRAVELLERS + "p0001000;s2;", 75);
        SlowerForTheLate x = new SlowerForTheLate();
        x.keep(1, 1, 0, 0);
        for (int t = 0; t < 7; t++) {
            x.comes(1, 0, 1, 0);
        }
        Check.due("two on seven", day(x, "p0001000;p0001000;"), -2009);
        Check.due("travellers", x.count(0), 7);
        Check.due("one on seven", day(x, "p0001000;"), 1);
        Check.due("one on eight", day(x, "p0001000;"), -2000);
    }

    @Keeps(promise = 2, sentence = SENSE)
    static void p02_kind1AheadOfKind2_whereverItStands() {
        form("x0;s", 4);
        form("x0;q", 3);
        form("l31;g00;r999", 12);
        form("p0044000;l1;", 11);
        form(FOUR_TRAINS + "t0000;t", 31);
        form("x0", 2);
    }

    @Keeps(promise = 2, sentence = IN_TURN)
    static void p02_theFirstThatCantBeDoneIsTold() {
        sense("s1;l31;g00;", 3);
        sense("g00;l31;", 0);
        sense("s1;h1;x0;x1;t9990;", 6);
        sense(FOUR_TRAINS + "s1;t0000;l31;", 27);
    }

    @Keeps(promise = 2, sentence = IN_TURN)
    static void p02_eachOnWhatThoseAheadOfItMade() {
        day("t0000;x0;", 2);
        sense("x0;t0000;", 0);
        day("t0000;t0000;x1;", 3);
        sense("t0000;x1;t0000;", 6);
        SlowerForTheLate x = new SlowerForTheLate();
        Check.due("the last that is told stays", day(x, "l05;l30;l07;"), 3);
        Check.due("LATE", x.count(3), 7);
    }

    @Keeps(promise = 2, sentence = "\"x\" a TRAIN (a digit): it is CANCELLED, or, told again, not.")
    static void p02_x_toldAgainNot() {
        int[] wants = {0, 1, 0, 1, 0};
        for (int times = 0; times < wants.length; times++) {
            SlowerForTheLate y = new SlowerForTheLate();
            Check.due("a text", day(y, "t0000;" + "x0;".repeat(times)), 1 + times);
            Check.due("told " + times + " times", y.about(0, 2), wants[times]);
        }
        SlowerForTheLate x = new SlowerForTheLate();
        Check.due("in one text", day(x, "t0000;t0000;x1;"), 3);
        Check.due("in another", day(x, "x1;x0;"), 2);
        Check.due("CANCELLED ones", x.count(2), 1);
    }

    // ---- all or nothing

    @Keeps(promise = 2, sentence = ALL_OR_NOTHING)
    static void p02_withAFaultOfForm_nothing() {
        String good = "r111;t0113;p0001000;l12;g13;s6;h7;x0;";
        for (String bad : new String[] {"s", "q", "l1;", ";", "r01"}) {
            Refusals.refused("day of " + good + bad, () -> Refusals.withText(good + bad), x -> x.day(6),
                -1000 - good.length() - (bad.equals("l1;") ? 2 : bad.equals(";") || bad.equals("q") ? 0 : bad.length()));
        }
    }

    @Keeps(promise = 2, sentence = ALL_OR_NOTHING)
    static void p02_withAFaultOfSense_nothing() {
        String good = "r111;t0113;p0001000;l12;g13;s6;h7;x0;";
        for (String bad : new String[] {"r401;", "t3010;", "p0011000;", "l31;", "g00;", "x3;", "p8001000;"}) {
            Refusals.refused("day of " + good + bad, () -> Refusals.withText(good + bad), x -> x.day(6), -2000 - good.length());
        }
    }

    @Keeps(promise = 2, sentence = ALL_OR_NOTHING)
    static void p02_withoutFault_allOfIt() {
        SlowerForTheLate x = new SlowerForTheLate();
        Check.due("eight", day(x, "r111;t0113;p0901022;l12;g13;s6;h7;x0;"), 8);
        int[] counts = {1, 1, 1, 12, 13, 6, 7, 41};
        for (int what = 0; what < counts.length; what++) {
            Check.due("count(" + what + ")", x.count(what), counts[what]);
        }
        Check.due("BASE", x.traveller(0, 4), 22);
        Check.due("FIGURE", x.traveller(0, 1), 9);
        Check.due("START", x.about(0, 0), 11);
        Check.due("SEATS", x.about(0, 1), 3);
    }

    @Keeps(promise = 2, sentence = "The ROW of a text, and what is taken from a SHELF, stay there")
    static void p02_theRowStays_readOrFaulty() {
        for (String text : new String[] {"s1;h2;", "s1;h", "s1;l31;"}) {
            SlowerForTheLate x = new SlowerForTheLate();
            long first = day(x, text);
            Check.due("once more", x.day(0), first);
            for (int i = 0; i < text.length(); i++) {
                Check.due("byte " + i + " of " + text, x.element(0, i), text.charAt(i));
            }
        }
    }

    // ---- refusals

    @Keeps(promise = 2, sentence = REFUSALS)
    static void p02_noSuchShelf() {
        for (int d : Refusals.outside(0, 7)) {
            Refusals.refused("day(" + d + ")", x -> x.day(d), -1);
        }
    }

    @Keeps(promise = 2, sentence = REFUSALS)
    static void p02_nothingHeld() {
        Refusals.refused("day of nothing", x -> x.day(Refusals.NOTHING), -11);
        Check.due("of a new object", new SlowerForTheLate().day(7), -11);
    }

    @Keeps(promise = 2, sentence = REFUSALS)
    static void p02_noRowOfBytes() {
        Refusals.refused("day of a TRAVELLER", x -> x.day(Refusals.ONE), -12);
        Refusals.refused("day of shorts", x -> x.day(Refusals.SHORTS), -12);
        Refusals.refused("day of ints", x -> x.day(Refusals.INTS), -12);
    }

    @Keeps(promise = 2, sentence = REFUSALS)
    static void p02_ofSeveral_noRowOfBytesAheadOfAFault() {
        for (int sort = 1; sort <= 2; sort++) {
            SlowerForTheLate x = new SlowerForTheLate();
            x.row(0, sort, 0);
            Check.due("an empty row of sort " + sort, x.day(0), -12);
            Check.write(x, 0, sort, 's', '1', ';');
            Check.due("a text in a row of sort " + sort, x.day(0), -12);
        }
    }
}
