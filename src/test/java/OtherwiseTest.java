/** Promises 26 to 35: what if a train, a rule or the weather were otherwise. */
public final class OtherwiseTest {
    private static final int WIDE = -1000000001;

    public static void main(String[] args) {
        cancel();
        strike();
        snow();
        law();
        bestLate();
        worth();
        bestGap();
        bestStart();
        need();
        extra();
        changesNothing();
        eachAskedBehindEach();
        Check.end();
    }

    private static void cancel() {
        SlowerForTheLate x = Check.of(DayTest.ONE_SEAT);
        Check.due("one fewer", x.cancel(0), -1);
        x.cancels(0);
        Check.due("one more", x.cancel(0), 1);
        Check.due("it is cancelled still", x.count(2), 1);
        Check.due("no matter", Check.of("t0209;p0001020;").cancel(0), 0);
        Check.due("nobody", Check.of("t0209;").cancel(0), 0);
        Check.due("the other train", Check.of("t0209;t0609;p6004060;").cancel(1), -1);
        for (int o : new int[] {-1, 1, 4, Integer.MIN_VALUE, Integer.MAX_VALUE}) {
            Check.due("cancel(" + o + ")", x.cancel(o), WIDE);
        }
    }

    private static void strike() {
        SlowerForTheLate x = Check.of(DayTest.ONE_SEAT);
        Check.due("firsts alone", x.strike(), 1);
        x.cancels(0);
        Check.due("and that is cancelled", x.strike(), 0);
        Check.due("seconds run again", x.sums(0), 2);
        Check.due("two firsts", Check.of("t0201;t0301;p0004020;p0004020;p0004020;").strike(), 2);
        Check.due("the second told runs first", Check.of("t0501;t0201;p0001020;p0001050;").strike(), 2);
        Check.due("no trains", Check.of("p0004020;").strike(), 0);
    }

    private static void snow() {
        SlowerForTheLate x = Check.of(DayTest.ONE_SEAT);
        Check.due("none", x.snow(0), 118);
        // the third leaves at 38 and takes 30 for each piece
        Check.due("five", x.snow(5), 158);
        Check.due("runs beyond 60", Check.of("t0009;r060;r160;r260;r360;p0004000;").snow(30), 360);
        Check.due("nobody arrives", Check.of("t0209;p0001031;").snow(3), 0);
        Check.due("the latest, not the last", Check.of("t0209;p0004020;p0001020;").snow(1), 64);
        for (int o : new int[] {-1, 31, Integer.MIN_VALUE, Integer.MAX_VALUE}) {
            Check.due("snow(" + o + ")", x.snow(o), -1);
        }
        Check.due("runs as they were", x.count(7), 40);
    }

    private static void law() {
        SlowerForTheLate x = Check.of(DayTest.ONE_SEAT);
        int[] lates = {0, 9, 10, 11, 30};
        int[] wants = {-1, -1, 0, 0, 0};
        for (int i = 0; i < lates.length; i++) {
            Check.due("law(" + lates[i] + ")", x.law(lates[i]), wants[i]);
        }
        SlowerForTheLate one = Check.of("t0209;p0001031;");
        Check.due("one more", one.law(11), 1);
        Check.due("no more", one.law(10), 0);
        one.set(0, 11);
        Check.due("one fewer", one.law(10), -1);
        Check.due("as now", one.law(11), 0);
        Check.due("late as it was", one.count(3), 11);
        for (int o : new int[] {-1, 31, Integer.MIN_VALUE, Integer.MAX_VALUE}) {
            Check.due("law(" + o + ")", x.law(o), WIDE);
        }
    }

    private static void bestLate() {
        Check.due("ten", Check.of(DayTest.ONE_SEAT).bestLate(), 10);
        Check.due("eleven", Check.of("t0209;p0001031;").bestLate(), 11);
        Check.due("thirty", Check.of("t0209;g30;p0001050;").bestLate(), 30);
        Check.due("one", Check.of("t0209;g01;p0001021;").bestLate(), 1);
        Check.due("no law helps", Check.of("t0209;g30;p0001051;").bestLate(), 0);
        Check.due("no need of any", Check.of("t0209;l30;p0001020;").bestLate(), 0);
        Check.due("nobody", Check.of("l30;").bestLate(), 0);
    }

    private static void worth() {
        Check.due("one stranded", Check.of(DayTest.ONE_SEAT).worth(), 2238);
        Check.due("all stranded", Check.of("p0001000;p0001000;p0001000;").worth(), 6000);
        Check.due("two", Check.of("t0209;p0001020;p0004020;").worth(), 90);
    }

    private static void bestGap() {
        // from 5 on the second will do, from 3 on the third
        SlowerForTheLate x = Check.of("t0209;p0001025;");
        Check.due("five", x.bestGap(), 5);
        Check.due("gap as it was", x.count(4), 8);
        Check.due("thirty", Check.of("t0209;l30;p0001050;").bestGap(), 30);
        Check.due("one", Check.of("t0209;p0001021;").bestGap(), 1);
        // 31 would be the best, if it were one: the third of 16 is
        Check.due("thirty-one is none", Check.of("t0209;l30;p7001051;").bestGap(), 16);
        Check.due("all alike", Check.of("t0209;p0001020;").bestGap(), 1);
        Check.due("no trains", Check.of("g09;p0001020;").bestGap(), 1);
    }

    private static void bestStart() {
        SlowerForTheLate x = Check.of("t0209;p0001025;");
        Check.due("when it comes", x.bestStart(0), 25);
        Check.due("start as it was", x.about(0, 0), 20);
        Check.due("held at 0", Check.of("t0109;p0001000;").bestStart(0), 0);
        Check.due("nobody, held at 0", Check.of("t0199;").bestStart(0), 0);
        Check.due("nobody", Check.of("t0219;").bestStart(0), 1);
        Check.due("held at 300", Check.of("t2909;p0001300;").bestStart(0), 300);
        Check.due("20 less", Check.of("t1009;p0001000;").bestStart(0), 80);
        Check.due("20 more", Check.of("t1009;p0001120;").bestStart(0), 120);
        Check.due("21 more: the second of 13 more", Check.of("t1009;p0001121;").bestStart(0), 113);
        Check.due("of several the least", Check.of("t0209;g10;s0;h0;p0001025;").bestStart(0), 15);
        Check.due("the other train", Check.of("t0209;t1009;p0001020;p6001103;").bestStart(1), 103);
        for (int o : new int[] {-1, 1, Integer.MIN_VALUE, Integer.MAX_VALUE}) {
            Check.due("bestStart(" + o + ")", x.bestStart(o), -1);
        }
    }

    private static void need() {
        SlowerForTheLate x = Check.of("t0209;p0004010;p0004010;p0004010;p0004010;");
        Check.due("two on two of them", x.need(0), 2);
        Check.due("seats as they were", x.about(0, 1), 9);
        Check.due("three: one on each", Check.of("t0200;p0004010;p0004010;p0004010;").need(0), 1);
        Check.due("nobody", Check.of("t0209;").need(0), 0);
        Check.due("another train takes them", Check.of("t0209;t0309;p0004010;").need(0), 0);
        // with 4 the parents take all of the first, with 5 one seat of it is left
        Check.due("an odd one", Check.of("t0209;p7001010;p7001010;p7001010;p7001010;p6001020;").need(0), 5);
        String aims = "p6001020;p6001020;p6001020;p6001020;p6001020;p6001020;";
        Check.due("nine", Check.of("t0200;p7001010;p6001020;" + aims).need(0), 9);
        Check.due("ten are not to be had", Check.of("t0209;p7001010;p7001010;" + aims).need(0), -4);
        Check.due("too late for any", Check.of("t0209;p0001031;").need(0), -4);
        for (int o : new int[] {-1, 1, Integer.MIN_VALUE, Integer.MAX_VALUE}) {
            Check.due("need(" + o + ")", x.need(o), -1);
        }
    }

    private static void extra() {
        Check.due("when it comes, in tens", Check.of("p0004025;").extra(), 30);
        Check.due("nobody", Check.of("h1;").extra(), 0);
        Check.due("300", Check.of("p0001295;").extra(), 300);
        Check.due("of several the least", Check.of("g10;s0;h0;p0001025;").extra(), 20);
        // nine places at 30; with eight it would be 20
        Check.due("nine seats", Check.of("p7001020;p7001030;p6001010;p7001030;p7001010;").extra(), 30);
        Check.due("what there is helps already", Check.of("t0209;p0001020;").extra(), 0);
        SlowerForTheLate x = Check.of("t0209;t0209;t0209;p0004125;");
        Check.due("a fourth", x.extra(), 130);
        Check.due("none was made", x.count(1), 3);
        x.train(0, 0);
        Check.due("four", x.extra(), -4);
    }

    private static void changesNothing() {
        SlowerForTheLate x = Check.of("r007;r360;t0202;t0301;x1;l11;g07;s4;h3;p7924017;p1104021;p6304020;");
        String before = told(x);
        for (int k = 0; k < 3; k++) {
            x.cancel(k);
            x.bestStart(k);
            x.need(k);
            x.later(k, 0);
            x.slack(k);
            x.odds(k);
            x.mean(k, 0);
            x.two(k, 1);
            x.whose(k);
            x.came(k, 90, 0);
            x.sure(k, k);
            x.mornings(k, 7, 0);
            x.fate(k, k);
        }
        x.strike();
        x.snow(9);
        x.law(3);
        x.bestLate();
        x.worth();
        x.bestGap();
        x.extra();
        Check.due("all is as it was", before.equals(told(x)) ? 1 : 0, 1);
    }

    /** No question may hang on what another one has tried. */
    private static void eachAskedBehindEach() {
        for (int first = 0; first < QUESTIONS; first++) {
            for (int second = 0; second < QUESTIONS; second++) {
                SlowerForTheLate x = Check.of(EARLIER);
                ask(x, first);
                becomeFresh(x);
                SlowerForTheLate fresh = Check.of("t0201;t0903;p0004020;p0002019;p0004031;p0004030;");
                Check.due(second + " behind " + first, ask(x, second), ask(fresh, second));
            }
        }
    }

    /** By calls, as a text would be tried on the trial plan, too. */
    private static void becomeFresh(SlowerForTheLate x) {
        while (x.count(0) > 0) {
            x.leaves(0);
        }
        x.cancels(1);
        int[] rules = {10, 8, 5, 2};
        for (int what = 0; what < rules.length; what++) {
            x.set(what, rules[what]);
        }
        x.run(0, 10);
        x.keep(7, 1, 0, 0);
        x.comes(7, 0, 4, 20);
        x.comes(7, 0, 2, 19);
        x.comes(7, 0, 4, 31);
        x.comes(7, 0, 4, 30);
    }

    private static final int QUESTIONS = 21;
    private static final String EARLIER =
        "t0201;t0903;x1;l03;g02;s9;h9;r033;p7904010;p6602011;p5304012;p3104013;p4012014;p2912015;";

    private static long ask(SlowerForTheLate x, int question) {
        switch (question) {
            case 0: return x.later(1, 1);
            case 1: return x.slack(1);
            case 2: return x.odds(3);
            case 3: return x.mean(1, 0);
            case 4: return x.two(0, 1);
            case 5: return x.whose(0);
            case 6: return x.cancel(0);
            case 7: return x.strike();
            case 8: return x.snow(3);
            case 9: return x.law(2);
            case 10: return x.bestLate();
            case 11: return x.worth();
            case 12: return x.bestGap();
            case 13: return x.bestStart(1);
            case 14: return x.need(0);
            case 15: return x.extra();
            case 16: return x.came(3, 118, 0);
            case 17: return x.sure(3, 1);
            case 18: return x.mornings(4, 9, 0);
            case 19:
                Check.write(x, 6, 1, 1, 0);
                return x.tickets(6, 0);
            default:
                Check.write(x, 6, 1, 1, 1);
                return x.forged(6);
        }
    }

    private static String told(SlowerForTheLate x) {
        StringBuilder sb = new StringBuilder();
        for (int t = 0; t < 8; t++) {
            for (int what = 0; what < 10; what++) {
                sb.append(x.traveller(t, what)).append(' ').append(x.about(t, what)).append(' ').append(x.count(what)).append(' ');
            }
        }
        return sb.toString();
    }
}
