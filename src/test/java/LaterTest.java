/** Promises 19 to 25: coming later, two who choose, whose seat it was, who are together. */
public final class LaterTest {
    /** At 30 one gets the third of train 0; at 31 it is too late for that, and train 1 is sooner. */
    static final String TOO_LATE_IS_SOONER = "t0209;t0409;p0004030;p0004020;";

    public static void main(String[] args) {
        later();
        slack();
        odds();
        means();
        two();
        whose();
        together();
        refusals();
        Check.end();
    }

    private static void later(String of, String text, int t, int m, int minute) {
        SlowerForTheLate x = Check.of(text);
        Check.due(of + ": later(" + t + ", 0)", x.later(t, 0), m);
        Check.due(of + ": later(" + t + ", 1)", x.later(t, 1), minute);
    }

    private static void later() {
        later("missing all is sooner", TOO_LATE_IS_SOONER, 0, 1, 80);
        later("in time already", TOO_LATE_IS_SOONER, 1, 0, 60);
        later("several alike", DayTest.ONE_SEAT, 1, 0, 60);
        later("stranded", DayTest.ONE_SEAT, 2, 0, 2000);
        later("the third or nothing", DayTest.ONE_SEAT, 3, 0, 118);
        // comes 11 to 71: up to 70 one gets a second or a third, from 71 on the first of train 2
        String far = "r020;r120;r220;r320;t0009;t0269;t0879;x0;x1;l30;g30;s9;p3904000;";
        later("just with 60", far, 0, 60, 167);
        Check.due("with 0", Check.of(far).fate(0, 4), 184);
        later("61 is too much", "r020;r120;r220;r320;t0009;t0279;t0889;x0;x1;l30;g30;s9;p3904000;", 0, 0, 184);
        later("up to 300", "t2799;t3009;p0004289;", 0, 1, 340);
        // 300 gets the third of train 0 at 300, 301 is too late for that and gets the second of train 1
        later("beyond 300", "t2909;t3009;g05;p0004300;", 0, 1, 367);
    }

    private static void slack() {
        Check.due("both trains", Check.of(TOO_LATE_IS_SOONER).slack(0), 18);
        Check.due("in time, no more", Check.of(TOO_LATE_IS_SOONER).slack(1), 0);
        SlowerForTheLate x = Check.of(DayTest.ONE_SEAT);
        Check.due("to the second", x.slack(1), 8);
        Check.due("none", x.slack(3), 0);
        Check.due("stranded with all", x.slack(2), 60);
        Check.due("one", Check.of("t0209;p0001019;").slack(0), 1);
        Check.due("59", Check.of("t0599;p0001000;").slack(0), 59);
        Check.due("60", Check.of("t0609;p0001000;").slack(0), 60);
        Check.due("not above 60", Check.of("t0619;p0001000;").slack(0), 60);
        Check.due("beyond 300", Check.of("t3009;x0;g30;l30;p0001300;").slack(0), 30);
    }

    private static void odds() {
        SlowerForTheLate x = Check.of(DayTest.ONE_SEAT);
        int[] wants = {10, 10, 0, 1};
        for (int t = 0; t < 4; t++) {
            Check.due("odds(" + t + ")", x.odds(t), wants[t]);
        }
        Check.due("0 to 9, not 10", Check.of("t0209;l00;p0001011;").odds(0), 10);
        Check.due("nine", Check.of("t0209;l00;p0001012;").odds(0), 9);
        Check.due("beyond 300", Check.of("t3009;l00;p0001300;").odds(0), 1);
    }

    private static void mean(String of, SlowerForTheLate x, int t, long above, long below) {
        Check.due(of + ": mean(" + t + ", 0)", x.mean(t, 0), above);
        Check.due(of + ": mean(" + t + ", 1)", x.mean(t, 1), below);
    }

    private static void means() {
        SlowerForTheLate x = Check.of(DayTest.ONE_SEAT);
        mean("nine at 60, one at 78", x, 1, 309, 5);
        mean("none", x, 2, 0, 1);
        mean("just one", x, 3, 118, 1);
        mean("one at 118, nine at 80", Check.of(TOO_LATE_IS_SOONER), 0, 419, 5);
        mean("all alike", Check.of("t0209;l00;p0001011;"), 0, 30, 1);
        mean("nine alike", Check.of("t0209;l00;p0001012;"), 0, 30, 1);
        // 30 three times, 40 four times, 49 three times
        mean("in tenths", Check.of("t0209;h1;g04;p0001018;"), 0, 397, 10);
        mean("in fifths", Check.of("t0209;h0;g04;p0001017;"), 0, 186, 5);
        mean("beyond 300", Check.of("t3009;l00;p0001300;"), 0, 310, 1);
    }

    private static void two() {
        SlowerForTheLate x = Check.of(TOO_LATE_IS_SOONER);
        Check.due("the first later", x.two(0, 1), 10);
        Check.due("the other later", x.two(1, 0), 1);
        Check.due("neither", Check.of("t0201;p0004020;p0004020;").two(0, 1), 0);
        Check.due("ten later", Check.of("t0209;t0409;p0004022;p0004020;").two(0, 1), 20);
        Check.due("ten later, the other", Check.of("t0209;t0409;p0004022;p0004020;").two(1, 0), 2);
        Check.due("5, not 6", Check.of("t0209;t0409;p0004025;p0004020;").two(0, 1), 20);
        Check.due("15 is no choice", Check.of("t0209;t0409;l12;p0004022;p0004020;").two(0, 1), 0);
        Check.due("both ten later", Check.of("t0209;t0409;p0004022;p0004022;").two(1, 0), 22);
        Check.due("both five later", Check.of("t0209;t0409;p0004030;p0004030;").two(0, 1), 11);
        // comes 26, 31, 36 and 25, 30, 35 with one at 25: whatever they choose, one would choose again
        Check.due("never at rest", Check.of("t0301;t0201;g08;p2004026;p5504025;p2004025;").two(0, 1), -4);
        Check.due("both stranded", Check.of("p0004030;p0004020;").two(0, 1), 0);
    }

    private static void whose() {
        SlowerForTheLate x = Check.of(DayTest.ONE_SEAT);
        int[] wants = {0, 1, 0, 0};
        for (int t = 0; t < 4; t++) {
            Check.due("one seat: whose(" + t + ")", x.whose(t), wants[t]);
        }
        SlowerForTheLate up = Check.of("t0201;p0004010;p0004011;p0004012;p0004013;");
        SlowerForTheLate down = Check.of("t0201;p0004013;p0004012;p0004011;p0004010;");
        int[] ahead = {0, 1, 3, 7};
        int[] behind = {14, 12, 8, 0};
        for (int t = 0; t < 4; t++) {
            Check.due("those ahead: whose(" + t + ")", up.whose(t), ahead[t]);
            Check.due("those behind: whose(" + t + ")", down.whose(t), behind[t]);
        }
        Check.due("who pushed in", Check.of("t0201;p0004020;p1904029;").whose(0), 2);
        // without the one that gets off there the second does not halt, so one aboard is there sooner
        Check.due("who made it halt", Check.of("t0209;p0004021;p0002021;").whose(0), 2);
    }

    private static void together() {
        SlowerForTheLate x = Check.of("t0209;p0003020;p0014020;p0034020;p0004021;p0014035;p0004050;p0004051;");
        int[][] wants = {
            {-1, 20, 0, 0, 0, 0, 0},
            {20, -1, 10, 0, 0, 0, 0},
            {0, 10, -1, 0, 0, 0, 0},
            {0, 0, 0, -1, 47, 0, 0},
            {0, 0, 0, 47, -1, 0, 0},
            {0, 0, 0, 0, 0, -1, 0},
            {0, 0, 0, 0, 0, 0, -1}};
        for (int a = 0; a < 7; a++) {
            for (int b = 0; b < 7; b++) {
                Check.due("together(" + a + ", " + b + ")", x.together(a, b), wants[a][b]);
            }
        }
        Check.due("from stop 0 to 1, from 2 to 3", Check.of("t0209;p0001020;p0023020;").together(0, 1), 0);
    }

    private static void refusals() {
        SlowerForTheLate x = Check.of(DayTest.ONE_SEAT);
        long wide = -1000000001L;
        for (int o : new int[] {-1, 4, 8, Integer.MIN_VALUE, Integer.MAX_VALUE}) {
            Check.due("later of none", x.later(o, 0), -1);
            Check.due("later of nothing", x.later(0, o), -1);
            Check.due("slack of none", x.slack(o), -1);
            Check.due("odds of none", x.odds(o), -1);
            Check.due("mean of none", x.mean(o, 0), wide);
            Check.due("mean of no part", x.mean(0, o), wide);
            Check.due("two and none", x.two(0, o), -1);
            Check.due("two of none", x.two(o, 0), -1);
            Check.due("whose of none", x.whose(o), -1);
            Check.due("together and none", x.together(0, o), -1);
            Check.due("together of none", x.together(o, 0), -1);
        }
        Check.due("later(0, 2)", x.later(0, 2), -1);
        Check.due("mean(0, 2)", x.mean(0, 2), wide);
        Check.due("two of one", x.two(1, 1), -1);
        Check.due("together of one", x.together(1, 1), -1);
        Check.due("bases as they were", x.traveller(1, 4), 20);
        Check.due("nobody left", x.count(0), 4);
    }
}
