/** Promises 36 to 41: tickets, forged ones, told minutes, what is sure, what is judged, mornings. */
public final class ExplainedTest {
    private static final int[] SKIPPED = {-128, -32768, Integer.MIN_VALUE};

    public static void main(String[] args) {
        tickets();
        forged();
        rowRefusals();
        came();
        sure();
        judge();
        judgeRefusals();
        mornings();
        Check.end();
    }

    private static void explain(String of, SlowerForTheLate x, int many, int least, int forged, int... told) {
        for (int sort = 0; sort < 3; sort++) {
            int[] row = told.clone();
            for (int i = 0; i < row.length; i++) {
                row[i] = row[i] == 99 ? SKIPPED[sort] : row[i];
            }
            Check.write(x, 3, sort, row);
            Check.due(of + ": tickets(3, 0)", x.tickets(3, 0), many);
            Check.due(of + ": tickets(3, 1)", x.tickets(3, 1), least);
            Check.due(of + ": forged(3)", x.forged(3), forged);
        }
    }

    private static void tickets() {
        // 99 stands for the number that is skipped
        SlowerForTheLate x = Check.of(DayTest.ONE_SEAT);
        explain("as it is", x, 21, 10, -4, 0, 1, -1, 2);
        explain("with less", x, 10, 0, -4, 0, 1, -1, -1);
        explain("two of them", x, 31, 0, -4, 0, 1);
        explain("none", x, 31, 0, -4);
        explain("all skipped", x, 31, 0, -4, 99, 99, 99, 99);
        explain("some skipped", x, 21, 10, -4, 99, 1, 99, 2);
        x.set(0, 3);
        explain("whatever the law is now", x, 21, 10, -4, 0, 1, -1, 2);
        Check.due("late as it was", x.count(3), 3);
        SlowerForTheLate other = Check.of("t0201;t0309;t0409;t0501;p0001050;p0001049;p0001031;p0001048;");
        explain("train and depth, 8 and 9", other, 2, 8, -4, 10, 9, 4, 7);
        explain("train and depth, 10", other, 1, 10, -4, 8, 9, 4, 7);
        explain("train and depth, 11 and more", other, 20, 11, -4, 8, 9, 2, 7);
        explain("train and depth, 1 to 7", other, 7, 1, -4, 11, 10, 4, 9);
        explain("train and depth, 0", other, 1, 0, -4, 11, 10, 6, 9);
        explain("of one only", Check.of("t0209;p0001050;g30;"), 1, 30, -4, 1);
    }

    private static void forged() {
        SlowerForTheLate x = Check.of(DayTest.ONE_SEAT + "p0023050;");
        // 4 comes to stop 2, ten late for the first: with 10 and more it gets the second that 1 has left
        explain("what is so", x, 21, 10, -4, 0, 1, -1, 2, 1);
        explain("the first", x, 0, -4, 0, 1, 1);
        explain("the second", x, 0, -4, 1, 0, 0, 5);
        explain("the third", x, 0, -4, 2, 0, 1, 2, 99);
        explain("no number of a train", x, 0, -4, 0, 12);
        explain("below -1", x, 0, -4, 3, 99, 99, 99, -2);
        explain("each alone would do, not both", x, 0, -4, 4, 99, 99, 99, 2, -1);
        explain("one skipped, then both", x, 10, 0, -4, 99, 99, 99, -1, -1);
        explain("stranded, told as such, then not", x, 0, -4, 4, 0, 1, -1, -1, 1);
    }

    private static void rowRefusals() {
        SlowerForTheLate x = Check.of(DayTest.ONE_SEAT);
        for (int o : new int[] {-1, 8, Integer.MIN_VALUE, Integer.MAX_VALUE}) {
            Check.due("tickets of no shelf", x.tickets(o, 0), -1);
            Check.due("forged of no shelf", x.forged(o), -1);
            Check.due("tickets of nothing such", x.tickets(0, o), -1);
        }
        Check.due("tickets(0, 2)", x.tickets(0, 2), -1);
        Check.due("tickets of nothing", x.tickets(0, 0), -11);
        Check.due("forged of nothing", x.forged(0), -11);
        x.keep(0, 1, 0, 0);
        Check.due("tickets of a traveller", x.tickets(0, 0), -12);
        Check.due("forged of a traveller", x.forged(0), -12);
        Check.due("range ahead of that", x.tickets(0, 2), -1);
        x.row(0, 1, 5);
        Check.due("tickets of five", x.tickets(0, 0), -13);
        Check.due("forged of five", x.forged(0), -13);
        Check.due("range ahead of that, too", x.tickets(0, -1), -1);
        x.row(0, 1, 4);
        Check.due("forged of four", x.forged(0), 1);
        x.leaves(0);
        Check.due("tickets of four, of three", x.tickets(0, 1), -13);
        x.row(0, 2, 100);
        Check.due("tickets of a hundred", x.tickets(0, 0), -13);
    }

    private static void came() {
        SlowerForTheLate x = Check.of(LaterTest.TOO_LATE_IS_SOONER);
        int[] minutes = {60, 90, 118, 80, 110, 138, 2000, 0, 61, 1999};
        int[] many = {21, 8, 2, 10, 8, 2, 250, 0, 0, 0};
        int[] least = {0, 21, 29, 31, 41, 49, 51, -4, -4, -4};
        for (int i = 0; i < minutes.length; i++) {
            Check.due("came(0, " + minutes[i] + ", 0)", x.came(0, minutes[i], 0), many[i]);
            Check.due("came(0, " + minutes[i] + ", 1)", x.came(0, minutes[i], 1), least[i]);
        }
        Check.due("300", Check.of("t3009;l00;p0001300;").came(0, 310, 0), 301);
        Check.due("the second for all", Check.of("t2919;g09;l30;s0;h0;x0;p0001000;").came(0, 310, 0), 301);
        Check.due("the second up to 300", Check.of("t2919;g09;l30;s0;h0;p0001000;").came(0, 310, 0), 9);
        Check.due("the second from 292 on", Check.of("t2919;g09;l30;s0;h0;p0001000;").came(0, 310, 1), 292);
        Check.due("nobody alike", Check.of("p0001300;").came(0, 2000, 0), 301);
        for (int o : new int[] {-1, 2, Integer.MIN_VALUE, Integer.MAX_VALUE}) {
            Check.due("came of none", x.came(o, 60, 0), -1);
            Check.due("came, nothing such", x.came(0, 60, o), -1);
        }
        Check.due("came at -1", x.came(0, -1, 0), -1);
        Check.due("came at 2001", x.came(0, 2001, 0), -1);
        Check.due("came at the least", x.came(0, Integer.MIN_VALUE, 1), -1);
    }

    private static void sure(String of, String text, int each, int some) {
        SlowerForTheLate x = Check.of(text);
        Check.due(of + ": sure(0, 0)", x.sure(0, 0), each);
        Check.due(of + ": sure(0, 1)", x.sure(0, 1), some);
    }

    private static void sure() {
        sure("all in time", "t0209;p0001011;", 1, 1);
        sure("one late", "t0209;p0001012;", 0, 3);
        sure("one stranded", "t0209;l00;p0001012;", 0, 1);
        sure("never", "t0209;p0001031;", 0, 0);
        sure("two trains", LaterTest.TOO_LATE_IS_SOONER, 0, 12);
        sure("the last of all", "t0009;t0009;t0009;t0509;g05;p6801042;", 2048, 2048);
        sure("beyond 300", "t3009;g10;p0001300;", 0, 3);
        SlowerForTheLate x = Check.of(DayTest.ONE_SEAT);
        for (int o : new int[] {-1, 4, Integer.MIN_VALUE, Integer.MAX_VALUE}) {
            Check.due("sure of none", x.sure(o, 0), -1);
            Check.due("sure of nothing such", x.sure(0, o), -1);
        }
        Check.due("sure(0, 2)", x.sure(0, 2), -1);
    }

    private static void judged(SlowerForTheLate x, int t, int... so) {
        for (int sort = 0; sort < 3; sort++) {
            Check.write(x, 2, sort, so);
            Check.due("judge(" + t + ", so)", x.judge(t, 2), -4);
            for (int i = 0; i < so.length; i++) {
                for (int other = -1; other < 8; other++) {
                    x.put(2, i, other);
                    Check.due("judge(" + t + ", " + other + " at " + i + ")", x.judge(t, 2), other == so[i] ? -4 : i);
                }
                x.put(2, i, SKIPPED[sort]);
                Check.due("judge(" + t + ", skipped at " + i + ")", x.judge(t, 2), -4);
                x.put(2, i, so[i]);
            }
            if (so.length > 2) {
                x.put(2, 2, 9);
                x.put(2, 1, 9);
                Check.due("the first of two", x.judge(t, 2), 1);
            }
        }
    }

    private static void judge() {
        SlowerForTheLate x = Check.of(DayTest.ONE_SEAT);
        judged(x, 0, 6, 6, 5, 5, 5, 5, 4, 4);
        judged(x, 1, 6, 6, 0, 5, 5, 5, 2, 2);
        judged(x, 2, 6, 6, 6, 6, 0, 0, 0);
        judged(x, 3, 6, 6, 6, 0, 5, 5, 5, 5, 5, 5, 5, 5, 4);
        judged(x, 0);
        // it waits at the stop it comes from, and gets off where a sleeper does
        judged(Check.of("t0209;p5313000;"), 0, 1, 1, 1, 5, 5, 5, 4, 4);
        // comes at 1, on at 39, off at 49
        judged(Check.of("t0299;p0012001;"), 0, 6, 1, 1, 1, 5, 2);
        // a hundred of them: up to minute 990
        SlowerForTheLate all = Check.of("p0012500;".substring(0, 4) + "2300;");
        all.row(0, 0, 100);
        for (int i = 0; i < 100; i++) {
            all.put(0, i, i < 30 ? 6 : 1);
        }
        Check.due("a hundred", all.judge(0, 0), -4);
        all.put(0, 99, 6);
        Check.due("the last of a hundred", all.judge(0, 0), 99);
    }

    private static void judgeRefusals() {
        SlowerForTheLate x = Check.of(DayTest.ONE_SEAT);
        for (int o : new int[] {-1, 4, Integer.MIN_VALUE, Integer.MAX_VALUE}) {
            Check.due("judge of none", x.judge(o, 0), -1);
        }
        for (int o : new int[] {-1, 8, Integer.MIN_VALUE, Integer.MAX_VALUE}) {
            Check.due("judge by no shelf", x.judge(0, o), -1);
        }
        Check.due("judge by nothing", x.judge(0, 0), -11);
        Check.due("none ahead of nothing", x.judge(4, 0), -1);
        x.keep(0, 1, 0, 0);
        Check.due("judge by a traveller", x.judge(0, 0), -12);
        x.row(0, 2, 0);
        Check.due("judge by no numbers", x.judge(0, 0), -4);
        x.row(0, 2, 90);
        Check.due("judge by ninety", x.judge(0, 0), 0);
    }

    private static void mornings(String of, SlowerForTheLate x, int n, int z, int arrive, int stranded) {
        Check.due(of + ": mornings(" + n + ", " + z + ", 0)", x.mornings(n, z, 0), arrive);
        Check.due(of + ": mornings(" + n + ", " + z + ", 1)", x.mornings(n, z, 1), stranded);
    }

    private static void mornings() {
        // the seed 1 draws 8 8 3 5 1 7 0 9 2 6; these ones take the first at 20 or none
        SlowerForTheLate one = Check.of("t0209;p6004015;");
        mornings("one", one, 1, 1, 0, 1);
        mornings("one", one, 2, 1, 0, 2);
        mornings("one", one, 3, 1, 1, 2);
        mornings("one", one, 10, 1, 5, 5);
        SlowerForTheLate both = Check.of("t0209;p6004015;p6004012;");
        mornings("two", both, 1, 1, 1, 1);
        mornings("two", both, 2, 1, 3, 1);
        mornings("two", both, 5, 1, 8, 2);
        // 16838 of the seed 1, and 15929 of the seed -1 when its sign's bit is gone: a draw of 9
        mornings("seed 0", Check.of("t0209;p6004020;"), 1, 0, 1, 0);
        mornings("seed -1", Check.of("t0209;p6004012;"), 1, -1, 0, 1);
        mornings("seed -1", Check.of("t0209;p6004011;"), 1, -1, 1, 0);
        mornings("beyond 300", Check.of("t3009;p6004300;"), 1, 1, 0, 1);
        mornings("twenty of them", Check.of("p0001000;p0001000;p0001000;"), 20, 5, 0, 60);
        mornings("nobody", Check.of("t0209;"), 20, 5, 0, 0);
        for (int o : new int[] {-1, 0, 21, Integer.MIN_VALUE, Integer.MAX_VALUE}) {
            Check.due("mornings(" + o + ")", one.mornings(o, 1, 0), -1);
        }
        for (int o : new int[] {-1, 2, Integer.MIN_VALUE, Integer.MAX_VALUE}) {
            Check.due("mornings of nothing such", one.mornings(1, 1, o), -1);
        }
        Check.due("base as it was", one.traveller(0, 4), 15);
    }
}
