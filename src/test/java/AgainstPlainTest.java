/** Long runs of drawn calls, each answer against that of Plain. */
public final class AgainstPlainTest {
    private static final int RUNS = 600;
    private static final int CALLS = 512;
    private static final String[] BEGINNINGS = {
        "", "t0202;t0503;", "t0201;t0301;t0402;t0603;", "g01;h9;s0;t0101;t0102;t0113;", "t0000;t3009;x0;", "l00;t0252;t0603;"};

    private final Draws draws;
    private final SlowerForTheLate x = new SlowerForTheLate();
    private final Plain plain = new Plain();

    private AgainstPlainTest(int seed) {
        draws = new Draws(seed);
    }

    /** A row of numbers that is the same for each seed. */
    private static final class Draws {
        private long state;

        Draws(int seed) {
            state = seed * 0x9E3779B97F4A7C15L + 1;
        }

        int below(int n) {
            state = state * 6364136223846793005L + 1442695040888963407L;
            return (int) ((state >>> 33) % n);
        }

        int from(int least, int most) {
            return least + below(most - least + 1);
        }

        boolean oneOf(int n) {
            return below(n) == 0;
        }

        /** Most times within the range, else close to it or far from it. */
        int near(int least, int most) {
            if (!oneOf(25)) {
                return from(least, most);
            }
            int[] odd = {least - 1, most + 1, least - 2, most + 2, Integer.MIN_VALUE, Integer.MAX_VALUE};
            return odd[below(odd.length)];
        }
    }

    public static void main(String[] args) {
        for (int seed = 1; seed <= RUNS; seed++) {
            new AgainstPlainTest(seed).goThrough(seed);
        }
        Check.end();
    }

    private void goThrough(int seed) {
        writeBoth(0, BEGINNINGS[seed % BEGINNINGS.length]);
        both("day", x.day(0), plain.day(0));
        for (int t = draws.below(9); t > 0; t--) {
            writeBoth(0, person());
            both("day", x.day(0), plain.day(0));
        }
        for (int k = 0; k < CALLS / 4; k++) {
            if (draws.oneOf(3)) {
                tell();
            } else if (draws.oneOf(3)) {
                handleShelves();
            } else {
                ask();
            }
        }
    }

    private void both(String call, long got, long want) {
        Check.due(call, got, want);
    }

    private void writeBoth(int d, String text) {
        x.row(d, 0, text.length());
        plain.row(d, 0, text.length());
        for (int i = 0; i < text.length(); i++) {
            x.put(d, i, text.charAt(i));
            plain.put(d, i, text.charAt(i));
        }
    }

    private static String digits(int v, int n) {
        StringBuilder sb = new StringBuilder().append(v);
        while (sb.length() < n) {
            sb.insert(0, '0');
        }
        return sb.toString();
    }

    private String person() {
        int from = draws.from(0, 3);
        int to = draws.oneOf(30) ? draws.from(0, 9) : draws.from(from + 1, 4);
        int base = draws.oneOf(30) ? draws.from(0, 999) : draws.from(0, 40) + 12 * from;
        int kind = draws.oneOf(60) ? draws.from(8, 9) : draws.below(8);
        return "p" + kind + draws.below(10) + from + to + digits(base, 3) + ";";
    }

    private String statement() {
        switch (draws.below(9)) {
            case 0: return "r" + draws.from(0, draws.oneOf(9) ? 9 : 3) + digits(draws.from(draws.oneOf(9) ? 0 : 1, draws.oneOf(9) ? 99 : 60), 2) + ";";
            case 1: return "t" + digits(draws.oneOf(9) ? draws.from(290, 310) : draws.from(0, 60), 3) + draws.below(6) + ";";
            case 2: return "l" + digits(draws.from(0, draws.oneOf(9) ? 40 : 30), 2) + ";";
            case 3: return "g" + digits(draws.from(draws.oneOf(9) ? 0 : 1, draws.oneOf(9) ? 40 : 30), 2) + ";";
            case 4: return "s" + draws.below(10) + ";";
            case 5: return "h" + draws.below(10) + ";";
            case 6: return "x" + draws.below(draws.oneOf(5) ? 6 : 3) + ";";
            default: return person();
        }
    }

    private String text() {
        StringBuilder sb = new StringBuilder();
        for (int k = draws.from(1, 4); k > 0; k--) {
            sb.append(statement());
        }
        if (draws.oneOf(4)) {
            int place = draws.below(sb.length());
            switch (draws.below(4)) {
                case 0: sb.setCharAt(place, (char) draws.below(256)); break;
                case 1: sb.deleteCharAt(place); break;
                case 2: sb.setLength(place); break;
                default: sb.insert(place, "rtplgshx;059z".charAt(draws.below(13))); break;
            }
        }
        return sb.toString();
    }

    private void tell() {
        int t = draws.near(0, 7);
        int r = draws.near(0, 3);
        switch (draws.below(11)) {
            case 0:
            case 1: {
                writeBoth(6, text());
                both("day", x.day(6), plain.day(6));
                break;
            }
            case 2: {
                int d = draws.near(0, 7);
                int from = draws.near(0, 4);
                int to = draws.near(0, 4);
                int b = draws.near(0, 90);
                both("comes", x.comes(d, from, to, b), plain.comes(d, from, to, b));
                break;
            }
            case 3: {
                if (draws.oneOf(2)) {
                    both("leaves", x.leaves(t), plain.leaves(t));
                }
                break;
            }
            case 4: {
                int v = draws.oneOf(9) ? draws.near(0, 300) : draws.from(0, 80);
                both("base", x.base(t, v), plain.base(t, v));
                break;
            }
            case 5: {
                int v = draws.oneOf(9) ? draws.near(0, 300) : draws.from(0, 80);
                int s = draws.near(0, 9);
                both("train", x.train(v, s), plain.train(v, s));
                break;
            }
            case 6: both("cancels", x.cancels(r), plain.cancels(r)); break;
            case 7: {
                int v = draws.oneOf(3) ? draws.near(1, 60) : draws.from(1, 20);
                both("run", x.run(r, v), plain.run(r, v));
                break;
            }
            case 8: {
                int what = draws.near(0, 3);
                int v = draws.oneOf(3) ? draws.near(0, 30) : draws.near(0, 9);
                both("set", x.set(what, v), plain.set(what, v));
                break;
            }
            case 9: both("image", x.image(), plain.image()); break;
            default: both("restore", x.restore(), plain.restore()); break;
        }
    }

    private void handleShelves() {
        int d = draws.near(0, 7);
        int e = draws.near(0, 7);
        int i = draws.near(0, 9);
        int j = draws.near(0, 9);
        switch (draws.below(8)) {
            case 0: {
                int what = draws.oneOf(4) ? draws.near(0, 1) : 1;
                int k = draws.near(0, 7);
                int f = draws.near(0, 9);
                both("keep", x.keep(d, what, k, f), plain.keep(d, what, k, f));
                break;
            }
            case 1: {
                int sort = draws.near(0, 2);
                int n = draws.oneOf(5) ? draws.near(0, 100) : draws.from(-1, 9);
                both("row", x.row(d, sort, n), plain.row(d, sort, n));
                break;
            }
            case 2: {
                int v = draws.oneOf(3) ? draws.near(-40000, 40000) : draws.near(-1, 12);
                both("put", x.put(d, i, v), plain.put(d, i, v));
                break;
            }
            case 3: {
                both("element", Check.answer(() -> x.element(d, i)), Check.answer(() -> plain.element(d, i)));
                break;
            }
            case 4:
            case 5: {
                int n = draws.near(0, 5);
                both("copy", x.copy(d, i, e, j, n), plain.copy(d, i, e, j, n));
                break;
            }
            case 6: both("cost", x.cost(d), plain.cost(d)); break;
            default: both("toss", x.toss(d), plain.toss(d)); break;
        }
    }

    private void ask() {
        int t = draws.near(0, 7);
        int r = draws.near(0, 3);
        int depth = draws.near(0, 2);
        int stop = draws.near(0, 4);
        switch (draws.below(28)) {
            case 0: both("traveller", x.traveller(t, stop), plain.traveller(t, stop)); break;
            case 1: both("traveller", x.traveller(t, stop + 5), plain.traveller(t, stop + 5)); break;
            case 2: both("takes", x.takes(t, depth), plain.takes(t, depth)); break;
            case 3: both("refund", x.refund(t, depth), plain.refund(t, depth)); break;
            case 4: both("about", x.about(r, depth), plain.about(r, depth)); break;
            case 5: askFates(); break;
            case 6: both("when", x.when(r, depth, stop), plain.when(r, depth, stop)); break;
            case 7: askSums(); break;
            case 8: both("aboard", x.aboard(r, depth, stop), plain.aboard(r, depth, stop)); break;
            case 9: both("fullest", x.fullest(r, depth), plain.fullest(r, depth)); break;
            case 10: both("cancel", x.cancel(r), plain.cancel(r)); break;
            case 11: both("strike", x.strike(), plain.strike()); break;
            case 12: both("bestLate", x.bestLate(), plain.bestLate()); break;
            case 13: both("bestGap", x.bestGap(), plain.bestGap()); break;
            case 14: both("bestStart", x.bestStart(r), plain.bestStart(r)); break;
            case 15: both("need", x.need(r), plain.need(r)); break;
            case 16: both("extra", x.extra(), plain.extra()); break;
            case 17: both("worth", x.worth(), plain.worth()); break;
            case 18: both("whose", x.whose(t), plain.whose(t)); break;
            case 19: askTwo(t, draws.near(0, 7)); break;
            case 20: askLater(t); break;
            case 21: askTickets(); break;
            case 22: askJudge(t); break;
            case 23: askCame(t); break;
            case 24: askMornings(); break;
            case 25: askRules(); break;
            case 26: both("sure", x.sure(t, draws.below(1)), plain.sure(t, 0)); break;
            default: both("sure", x.sure(t, 1), plain.sure(t, 1)); break;
        }
    }

    private void askFates() {
        for (int t = 0; t < 8; t++) {
            for (int what = -1; what < 9; what++) {
                both("fate", x.fate(t, what), plain.fate(t, what));
            }
        }
    }

    private void askSums() {
        for (int what = -1; what < 7; what++) {
            both("sums", x.sums(what), plain.sums(what));
        }
        for (int what = -1; what < 9; what++) {
            both("count", x.count(what), plain.count(what));
        }
    }

    private void askTwo(int t, int u) {
        both("two", x.two(t, u), plain.two(t, u));
        both("together", x.together(t, u), plain.together(t, u));
    }

    private void askLater(int t) {
        int what = draws.near(0, 1);
        both("later", x.later(t, what), plain.later(t, what));
        both("slack", x.slack(t), plain.slack(t));
        both("odds", x.odds(t), plain.odds(t));
        both("mean", x.mean(t, what), plain.mean(t, what));
    }

    /** Mostly what is so with some LATE, with a number changed or skipped now and then. */
    private void askTickets() {
        int n = draws.from(0, plain.count(0) + (draws.oneOf(9) ? 1 : 0));
        int sort = draws.below(3);
        x.row(5, sort, n);
        plain.row(5, sort, n);
        int was = plain.count(3);
        plain.set(0, draws.from(0, 30));
        for (int t = 0; t < n; t++) {
            int v = plain.fate(t, 0) == 1 ? 3 * plain.fate(t, 1) + plain.fate(t, 2) : -1;
            if (draws.oneOf(12)) {
                v = draws.near(-1, 12);
            } else if (draws.oneOf(8)) {
                v = new int[] {-128, -32768, Integer.MIN_VALUE}[sort];
            }
            x.put(5, t, v);
            plain.put(5, t, v);
        }
        plain.set(0, was);
        int what = draws.near(0, 1);
        int d = draws.oneOf(6) ? draws.near(0, 7) : 5;
        both("tickets", x.tickets(d, what), plain.tickets(d, what));
        both("forged", x.forged(d), plain.forged(d));
    }

    /** Mostly what is so, with a number changed or skipped now and then. */
    private void askJudge(int t) {
        int sort = draws.below(3);
        int n = draws.from(0, 20);
        x.row(4, sort, n);
        plain.row(4, sort, n);
        for (int i = 0; i < n; i++) {
            int v = 6;
            while (v > 0 && plain.judge(t, 4) == i) {
                plain.put(4, i, v);
                v--;
            }
            plain.put(4, i, v);
            while (v < 7 && plain.judge(t, 4) == i) {
                plain.put(4, i, v);
                v++;
            }
            if (draws.oneOf(15)) {
                plain.put(4, i, draws.near(0, 6));
            } else if (draws.oneOf(10)) {
                plain.put(4, i, new int[] {-128, -32768, Integer.MIN_VALUE}[sort]);
            }
            x.put(4, i, (int) plain.element(4, i));
        }
        int d = draws.oneOf(6) ? draws.near(0, 7) : 4;
        both("judge", x.judge(t, d), plain.judge(t, d));
    }

    private void askCame(int t) {
        int minute = draws.oneOf(3) ? 2000 : plain.fate(t, 0) == 1 ? plain.fate(t, 4) : draws.near(0, 2000);
        int what = draws.near(0, 1);
        if (draws.oneOf(4)) {
            both("came", x.came(t, minute, what), plain.came(t, minute, what));
        }
    }

    private void askMornings() {
        int n = draws.near(1, 20);
        int z = draws.oneOf(2) ? draws.near(0, 100) : draws.below(Integer.MAX_VALUE) * 2 + 1;
        int what = draws.near(0, 1);
        both("mornings", x.mornings(n, z, what), plain.mornings(n, z, what));
    }

    private void askRules() {
        int late = draws.near(0, 30);
        both("law", x.law(late), plain.law(late));
        both("snow", x.snow(late), plain.snow(late));
    }
}
