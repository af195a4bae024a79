import java.math.BigInteger;
import java.util.ArrayList;
import java.util.Arrays;
import java.util.Comparator;
import java.util.List;
import java.util.PriorityQueue;

/**
 * The document once more, written with other means: tables in place of classes under one another, and a
 * day gone through event by event. It is there to be compared with.
 */
final class Plain {
    static final class Person {
        int kind;
        int figure;
        int from;
        int to;
        int base;

        Person(int kind, int figure, int from, int to, int base) {
            this.kind = kind;
            this.figure = figure;
            this.from = from;
            this.to = to;
            this.base = base;
        }

        Person copied() {
            return new Person(kind, figure, from, to, base);
        }

        int comes() {
            int[] all = {
                base,
                Math.max(0, base - figure),
                base + figure,
                base + figure + 2,
                Math.max(0, Math.max(0, base - figure) - 3),
                base,
                base + figure,
                base};
            return all[kind];
        }

        int excuse() {
            int[] all = {0, 1, figure, figure + 5, 2, figure / 2, Math.max(0, figure - 1), 6};
            return all[kind];
        }

        int rank() {
            return new int[] {2, 1, 2, 3, 0, 2, 2, 2}[kind];
        }

        int places() {
            return kind == 7 ? 2 : 1;
        }

        int off() {
            return kind == 5 && to < 4 ? to + 1 : to;
        }

        boolean takes(int depth) {
            return kind != 6 || figure / 3 == depth;
        }

        int refund(int depth) {
            int[][] all = {
                {0, 2, 4}, {0, 2, 4}, {0, 1, 3}, {0, 1, 3}, {0, 0, 0}, {0, 2, 4}, {0, 1, 3}, {0, 4, 8}};
            return all[kind][depth];
        }

        int cost() {
            int[] all = {5, 8, 5 + figure, 2 * (10 + figure), 0, 6, 9 + Math.max(0, figure - 1), 10};
            return all[kind];
        }
    }

    static final class Train {
        int start;
        int seats;
        boolean cancelled;

        Train(int start, int seats, boolean cancelled) {
            this.start = start;
            this.seats = seats;
            this.cancelled = cancelled;
        }
    }

    /** What is told of a day. */
    static final class Told {
        List<Person> people = new ArrayList<>();
        List<Train> trains = new ArrayList<>();
        int[] run = {10, 10, 10, 10};
        int late = 10;
        int gap = 8;
        int slow = 5;
        int halt = 2;

        Told copied() {
            Told t = new Told();
            for (Person p : people) {
                t.people.add(p.copied());
            }
            for (Train r : trains) {
                t.trains.add(new Train(r.start, r.seats, r.cancelled));
            }
            t.run = run.clone();
            t.late = late;
            t.gap = gap;
            t.slow = slow;
            t.halt = halt;
            return t;
        }

        Told with(int t, int more) {
            Told other = copied();
            other.people.get(t).base += more;
            return other;
        }
    }

    /** What became of one. */
    static final class Fate {
        int train = -1;
        int depth = -1;
        int on = -1;
        int arrived = -1;
        List<Integer> missed = new ArrayList<>();
        int pushed = 0;
        boolean off = false;

        int minute() {
            return off ? arrived : 2000;
        }

        int ticket() {
            return train < 0 ? -1 : 3 * train + depth;
        }
    }

    static final class Outcome {
        Fate[] fates;
        int[][][] when;
        int[][][] aboard;
        int[][] fullest;

        int arrive() {
            int n = 0;
            for (Fate f : fates) {
                n += f.off ? 1 : 0;
            }
            return n;
        }

        int latest() {
            int n = 0;
            for (Fate f : fates) {
                n = f.off ? Math.max(n, f.arrived) : n;
            }
            return n;
        }

        int worth() {
            int n = 0;
            for (Fate f : fates) {
                n += f.minute();
            }
            return n;
        }
    }

    static Outcome gone(Told told, int deepest) {
        Outcome out = new Outcome();
        int people = told.people.size();
        int trains = told.trains.size();
        out.fates = new Fate[people];
        for (int t = 0; t < people; t++) {
            out.fates[t] = new Fate();
        }
        out.when = new int[trains][3][5];
        out.aboard = new int[trains][3][5];
        out.fullest = new int[trains][3];
        PriorityQueue<int[]> events = new PriorityQueue<>(
            Comparator.<int[]>comparingInt(e -> e[0]).thenComparingInt(e -> e[1]).thenComparingInt(e -> e[2]));
        for (int r = 0; r < trains; r++) {
            for (int d = 0; d <= deepest; d++) {
                events.add(new int[] {told.trains.get(r).start + d * told.gap, r, d, 0});
            }
        }
        while (!events.isEmpty()) {
            int[] e = events.remove();
            boolean moved = event(told, out, e[0], e[1], e[2], e[3]);
            if (e[3] < 4) {
                int run = told.run[e[3]];
                int next = e[0] + run + (run * e[2] * told.slow) / 10;
                if (moved && e[2] > 0) {
                    next += told.halt;
                }
                events.add(new int[] {next, e[1], e[2], e[3] + 1});
            }
        }
        return out;
    }

    private static boolean event(Told told, Outcome out, int minute, int r, int d, int stop) {
        out.when[r][d][stop] = minute;
        boolean moved = false;
        int load = 0;
        List<Integer> asked = new ArrayList<>();
        for (int t = 0; t < told.people.size(); t++) {
            Person p = told.people.get(t);
            Fate f = out.fates[t];
            boolean here = f.train == r && f.depth == d && !f.off;
            if (here && p.off() == stop) {
                f.off = true;
                f.arrived = minute;
                moved = true;
            } else if (here) {
                load += p.places();
            }
            if (p.from == stop && f.train < 0) {
                asked.add(t);
            }
        }
        asked.sort(Comparator.<Integer>comparingInt(t -> told.people.get(t).rank())
            .thenComparingInt(t -> told.people.get(t).comes()).thenComparingInt(t -> t));
        Train train = told.trains.get(r);
        for (int t : asked) {
            Person p = told.people.get(t);
            Fate f = out.fates[t];
            boolean may = d == 0 ? !train.cancelled : f.missed.contains(3 * r + d - 1);
            boolean there = p.comes() <= minute;
            boolean room = load + p.places() <= train.seats;
            if (there && may && p.takes(d) && room) {
                f.train = r;
                f.depth = d;
                f.on = minute;
                load += p.places();
                moved = true;
                continue;
            }
            if (there && may && p.takes(d)) {
                f.pushed++;
            }
            int late = Math.max(0, p.comes() - minute);
            if ((d == 0 || may) && late <= told.late + p.excuse()) {
                f.missed.add(3 * r + d);
            }
        }
        int bits = 0;
        for (int t = 0; t < told.people.size(); t++) {
            Fate f = out.fates[t];
            if (f.train == r && f.depth == d && !f.off) {
                bits |= 1 << t;
            }
        }
        out.aboard[r][d][stop] = bits;
        out.fullest[r][d] = Math.max(out.fullest[r][d], load);
        return moved;
    }

    // ---- the object

    private Told now = new Told();
    private Told taken = null;
    private final Object[] shelf = new Object[8];

    static final class Row {
        int sort;
        long[] cells;
    }

    private boolean person(int t) {
        return 0 <= t && t < now.people.size();
    }

    private boolean isTrain(int r) {
        return 0 <= r && r < now.trains.size();
    }

    private static boolean in(int v, int least, int most) {
        return least <= v && v <= most;
    }

    private Outcome out() {
        return gone(now, 2);
    }

    private int[] minutesLater(int t, int most) {
        int[] minutes = new int[most + 1];
        for (int m = 0; m <= most; m++) {
            minutes[m] = gone(now.with(t, m), 2).fates[t].minute();
        }
        return minutes;
    }

    int day(int d) {
        if (!in(d, 0, 7)) return -1;
        if (shelf[d] == null) return -11;
        if (!(shelf[d] instanceof Row) || ((Row) shelf[d]).sort != 0) return -12;
        StringBuilder sb = new StringBuilder();
        for (long c : ((Row) shelf[d]).cells) {
            sb.append((char) (c & 0xff));
        }
        String text = sb.toString();
        String[] forms = {"rdDD;", "tDDDd;", "pddddDDD;", "lDD;", "gDD;", "sd;", "hd;", "xd;"};
        // the longest beginning that some text of these forms has, too
        List<String> statements = new ArrayList<>();
        int at = 0;
        while (at < text.length() || statements.isEmpty()) {
            String form = null;
            for (String f : forms) {
                if (at < text.length() && f.charAt(0) == text.charAt(at)) {
                    form = f;
                }
            }
            if (form == null) return -1000 - at;
            int i = 1;
            while (i < form.length()) {
                if (at + i >= text.length()) return -1000 - text.length();
                char c = text.charAt(at + i);
                boolean good = form.charAt(i) == ';' ? c == ';' : c >= '0' && c <= '9';
                if (!good) return -1000 - (at + i);
                i++;
            }
            statements.add(text.substring(at, at + i));
            at += i;
        }
        Told next = now.copied();
        at = 0;
        for (String s : statements) {
            if (!done(next, s)) return -2000 - at;
            at += s.length();
        }
        now = next;
        return statements.size();
    }

    private static boolean done(Told t, String s) {
        int a = s.charAt(1) - '0';
        int rest = s.length() > 3 ? Integer.parseInt(s.substring(2, s.length() - 1)) : 0;
        int all = Integer.parseInt(s.substring(1, s.length() - 1));
        switch (s.charAt(0)) {
            case 'r':
                if (a > 3 || rest < 1 || rest > 60) return false;
                t.run[a] = rest;
                return true;
            case 't':
                if (all / 10 > 300 || t.trains.size() == 4) return false;
                t.trains.add(new Train(all / 10, all % 10, false));
                return true;
            case 'p': {
                int figure = s.charAt(2) - '0';
                int from = s.charAt(3) - '0';
                int to = s.charAt(4) - '0';
                int base = Integer.parseInt(s.substring(5, 8));
                if (a > 7 || to > 4 || from >= to || base > 300 || t.people.size() == 8) return false;
                t.people.add(new Person(a, figure, from, to, base));
                return true;
            }
            case 'l':
                if (all > 30) return false;
                t.late = all;
                return true;
            case 'g':
                if (all > 30 || all == 0) return false;
                t.gap = all;
                return true;
            case 's':
                t.slow = all;
                return true;
            case 'h':
                t.halt = all;
                return true;
            default:
                if (a >= t.trains.size()) return false;
                t.trains.get(a).cancelled ^= true;
                return true;
        }
    }

    int traveller(int t, int what) {
        if (!person(t) || !in(what, 0, 9)) return -1;
        Person p = now.people.get(t);
        int[] all = {p.kind, p.figure, p.from, p.to, p.base, p.comes(), p.excuse(), p.rank(), p.places(), p.off()};
        return all[what];
    }

    int takes(int t, int d) {
        return !person(t) || !in(d, 0, 2) ? -1 : now.people.get(t).takes(d) ? 1 : 0;
    }

    int refund(int t, int d) {
        return !person(t) || !in(d, 0, 2) ? -1 : now.people.get(t).refund(d);
    }

    int comes(int d, int from, int to, int base) {
        if (!in(d, 0, 7) || !in(from, 0, 4) || !in(to, 0, 4) || !in(base, 0, 300)) return -1;
        if (shelf[d] == null) return -11;
        if (!(shelf[d] instanceof int[])) return -12;
        if (from >= to) return -3;
        if (now.people.size() == 8) return -2;
        int[] one = (int[]) shelf[d];
        now.people.add(new Person(one[0], one[1], from, to, base));
        return now.people.size() - 1;
    }

    int leaves(int t) {
        if (!person(t)) return -1;
        now.people.remove(t);
        return now.people.size();
    }

    int base(int t, int v) {
        if (!person(t) || !in(v, 0, 300)) return -1;
        int was = now.people.get(t).base;
        now.people.get(t).base = v;
        return was;
    }

    int train(int start, int seats) {
        if (!in(start, 0, 300) || !in(seats, 0, 9)) return -1;
        if (now.trains.size() == 4) return -2;
        now.trains.add(new Train(start, seats, false));
        return now.trains.size() - 1;
    }

    int about(int train, int what) {
        if (!isTrain(train) || !in(what, 0, 2)) return -1;
        Train r = now.trains.get(train);
        return what == 0 ? r.start : what == 1 ? r.seats : r.cancelled ? 1 : 0;
    }

    int cancels(int train) {
        if (!isTrain(train)) return -1;
        Train r = now.trains.get(train);
        r.cancelled = !r.cancelled;
        return r.cancelled ? 1 : 0;
    }

    int run(int piece, int v) {
        if (!in(piece, 0, 3) || !in(v, 1, 60)) return -1;
        int was = now.run[piece];
        now.run[piece] = v;
        return was;
    }

    int set(int what, int v) {
        int was;
        if (what == 0 && in(v, 0, 30)) {
            was = now.late;
            now.late = v;
        } else if (what == 1 && in(v, 1, 30)) {
            was = now.gap;
            now.gap = v;
        } else if (what == 2 && in(v, 0, 9)) {
            was = now.slow;
            now.slow = v;
        } else if (what == 3 && in(v, 0, 9)) {
            was = now.halt;
            now.halt = v;
        } else {
            was = -1;
        }
        return was;
    }

    int fate(int t, int what) {
        if (!person(t) || !in(what, 0, 7)) return -1;
        Fate f = out().fates[t];
        if (!f.off && in(what, 1, 5)) return -4;
        int[] all = {f.off ? 1 : 0, f.train, f.depth, f.on, f.arrived, now.people.get(t).off(), f.missed.size(), f.pushed};
        return all[what];
    }

    int when(int train, int depth, int stop) {
        return !isTrain(train) || !in(depth, 0, 2) || !in(stop, 0, 4) ? -1 : out().when[train][depth][stop];
    }

    int sums(int what) {
        Outcome o = out();
        int missed = 0;
        int waited = 0;
        int refunds = 0;
        for (int t = 0; t < o.fates.length; t++) {
            Fate f = o.fates[t];
            missed += f.missed.size();
            if (f.off) {
                waited += f.on - now.people.get(t).comes();
                refunds += now.people.get(t).refund(f.depth);
            }
        }
        int[] all = {o.arrive(), o.fates.length - o.arrive(), missed, waited, refunds, o.latest()};
        return in(what, 0, 5) ? all[what] : -1;
    }

    int aboard(int train, int depth, int stop) {
        return !isTrain(train) || !in(depth, 0, 2) || !in(stop, 0, 4) ? -1 : out().aboard[train][depth][stop];
    }

    int fullest(int train, int depth) {
        return !isTrain(train) || !in(depth, 0, 2) ? -1 : out().fullest[train][depth];
    }

    int later(int t, int what) {
        if (!person(t) || !in(what, 0, 1)) return -1;
        int[] minutes = minutesLater(t, 60);
        int least = Arrays.stream(minutes).min().getAsInt();
        for (int m = 0; m <= 60; m++) {
            if (minutes[m] == least) return what == 0 ? m : least;
        }
        throw new AssertionError();
    }

    int slack(int t) {
        if (!person(t)) return -1;
        int[] minutes = minutesLater(t, 60);
        int greatest = 0;
        for (int m = 0; m <= 60; m++) {
            if (minutes[m] <= minutes[0]) greatest = m;
        }
        return greatest;
    }

    int odds(int t) {
        if (!person(t)) return -1;
        return (int) Arrays.stream(minutesLater(t, 9)).filter(m -> m != 2000).count();
    }

    long mean(int t, int part) {
        if (!person(t) || !in(part, 0, 1)) return -1000000001;
        int[] good = Arrays.stream(minutesLater(t, 9)).filter(m -> m != 2000).toArray();
        if (good.length == 0) return part;
        BigInteger above = BigInteger.valueOf(Arrays.stream(good).sum());
        BigInteger below = BigInteger.valueOf(good.length);
        return (part == 0 ? above : below).divide(above.gcd(below)).longValue();
    }

    int two(int a, int b) {
        if (!person(a) || !person(b) || a == b) return -1;
        for (int i = 0; i < 3; i++) {
            for (int j = 0; j < 3; j++) {
                Fate[] here = gone(now.with(a, 5 * i).with(b, 5 * j), 2).fates;
                boolean stays = true;
                for (int k = 0; k < 3; k++) {
                    stays &= gone(now.with(a, 5 * k).with(b, 5 * j), 2).fates[a].minute() >= here[a].minute();
                    stays &= gone(now.with(a, 5 * i).with(b, 5 * k), 2).fates[b].minute() >= here[b].minute();
                }
                if (stays) return 10 * i + j;
            }
        }
        return -4;
    }

    int whose(int t) {
        if (!person(t)) return -1;
        int minute = out().fates[t].minute();
        int bits = 0;
        for (int u = 0; u < now.people.size(); u++) {
            Told without = now.copied();
            Person one = without.people.get(t);
            without.people.remove(u);
            if (u != t && gone(without, 2).fates[without.people.indexOf(one)].minute() < minute) bits += 1 << u;
        }
        return bits;
    }

    int together(int a, int b) {
        if (!person(a) || !person(b) || a == b) return -1;
        Fate f = out().fates[a];
        Fate g = out().fates[b];
        if (!f.off || !g.off || f.ticket() != g.ticket()) return 0;
        int minutes = 0;
        for (int m = 0; m < 3000; m++) {
            if (m >= f.on && m < f.arrived && m >= g.on && m < g.arrived) minutes++;
        }
        return minutes;
    }

    int cancel(int train) {
        if (!isTrain(train)) return -1000000001;
        Told other = now.copied();
        other.trains.get(train).cancelled ^= true;
        return gone(other, 2).arrive() - out().arrive();
    }

    int strike() {
        return gone(now, 0).arrive();
    }

    int snow(int n) {
        if (!in(n, 0, 30)) return -1;
        Told other = now.copied();
        for (int k = 0; k < 4; k++) {
            other.run[k] += n;
        }
        return gone(other, 2).latest();
    }

    private int arriveByLate(int late) {
        Told other = now.copied();
        other.late = late;
        return gone(other, 2).arrive();
    }

    int law(int late) {
        return in(late, 0, 30) ? arriveByLate(late) - out().arrive() : -1000000001;
    }

    int bestLate() {
        int best = 30;
        for (int l = 30; l >= 0; l--) {
            if (arriveByLate(l) >= arriveByLate(best)) best = l;
        }
        return best;
    }

    int worth() {
        return out().worth();
    }

    int bestGap() {
        int best = 1;
        int least = Integer.MAX_VALUE;
        for (int g = 1; g <= 30; g++) {
            Told other = now.copied();
            other.gap = g;
            int worth = gone(other, 2).worth();
            if (worth < least) {
                least = worth;
                best = g;
            }
        }
        return best;
    }

    int bestStart(int train) {
        if (!isTrain(train)) return -1;
        int best = -1;
        int least = Integer.MAX_VALUE;
        for (int k = -20; k <= 20; k++) {
            Told other = now.copied();
            int start = Math.min(300, Math.max(0, other.trains.get(train).start + k));
            other.trains.get(train).start = start;
            int worth = gone(other, 2).worth();
            if (worth < least) {
                least = worth;
                best = start;
            }
        }
        return best;
    }

    int need(int train) {
        if (!isTrain(train)) return -1;
        for (int s = 0; s < 10; s++) {
            Told other = now.copied();
            other.trains.get(train).seats = s;
            if (gone(other, 2).arrive() == now.people.size()) return s;
        }
        return -4;
    }

    int extra() {
        if (now.trains.size() == 4) return -4;
        int best = -1;
        int least = Integer.MAX_VALUE;
        for (int s = 0; s <= 30; s++) {
            Told other = now.copied();
            other.trains.add(new Train(10 * s, 9, false));
            int worth = gone(other, 2).worth();
            if (worth < least) {
                least = worth;
                best = 10 * s;
            }
        }
        return best;
    }

    private int refusesTickets(int d) {
        if (!in(d, 0, 7)) return -1;
        if (shelf[d] == null) return -11;
        if (!(shelf[d] instanceof Row)) return -12;
        return ((Row) shelf[d]).cells.length > now.people.size() ? -13 : 0;
    }

    private static long least(Row row) {
        return row.sort == 0 ? -128 : row.sort == 1 ? -32768 : -2147483648L;
    }

    /** Whether with this LATE the first n of the row are so. */
    private boolean isSo(Row row, int n, int late) {
        Told other = now.copied();
        other.late = late;
        Fate[] fates = gone(other, 2).fates;
        for (int t = 0; t < n; t++) {
            if (row.cells[t] != least(row) && row.cells[t] != fates[t].ticket()) return false;
        }
        return true;
    }

    int tickets(int d, int what) {
        if (!in(what, 0, 1)) return -1;
        if (refusesTickets(d) != 0) return refusesTickets(d);
        Row row = (Row) shelf[d];
        List<Integer> lates = new ArrayList<>();
        for (int l = 0; l <= 30; l++) {
            if (isSo(row, row.cells.length, l)) lates.add(l);
        }
        return what == 0 ? lates.size() : lates.isEmpty() ? -4 : lates.get(0);
    }

    int forged(int d) {
        if (refusesTickets(d) != 0) return refusesTickets(d);
        Row row = (Row) shelf[d];
        for (int n = 0; n < row.cells.length; n++) {
            boolean some = false;
            for (int l = 0; l <= 30; l++) {
                some |= isSo(row, n + 1, l);
            }
            if (!some) return n;
        }
        return -4;
    }

    int came(int t, int minute, int what) {
        if (!person(t) || !in(minute, 0, 2000) || !in(what, 0, 1)) return -1;
        List<Integer> bases = new ArrayList<>();
        for (int b = 0; b <= 300; b++) {
            if (gone(now.with(t, b - now.people.get(t).base), 2).fates[t].minute() == minute) bases.add(b);
        }
        return what == 0 ? bases.size() : bases.isEmpty() ? -4 : bases.get(0);
    }

    int sure(int t, int what) {
        if (!person(t) || !in(what, 0, 1)) return -1;
        int[] times = new int[12];
        for (int m = 0; m < 10; m++) {
            int ticket = gone(now.with(t, m), 2).fates[t].ticket();
            if (ticket >= 0) times[ticket]++;
        }
        int bits = 0;
        for (int k = 0; k < 12; k++) {
            if (times[k] >= (what == 0 ? 10 : 1)) bits += 1 << k;
        }
        return bits;
    }

    int judge(int t, int d) {
        if (!person(t) || !in(d, 0, 7)) return -1;
        if (shelf[d] == null) return -11;
        if (!(shelf[d] instanceof Row)) return -12;
        Row row = (Row) shelf[d];
        Person p = now.people.get(t);
        Fate f = out().fates[t];
        for (int i = 0; i < row.cells.length; i++) {
            int minute = 10 * i;
            int where = p.comes() > minute ? 6 : p.from;
            if (f.off && f.on <= minute) where = 5;
            if (f.off && f.arrived <= minute) where = p.off();
            if (row.cells[i] != least(row) && row.cells[i] != where) return i;
        }
        return -4;
    }

    int mornings(int n, int z, int what) {
        if (!in(n, 1, 20) || !in(what, 0, 1)) return -1;
        BigInteger seed = BigInteger.valueOf(z);
        int arrive = 0;
        for (int k = 0; k < n; k++) {
            Told other = now.copied();
            for (Person p : other.people) {
                seed = seed.multiply(BigInteger.valueOf(1103515245)).add(BigInteger.valueOf(12345));
                int high = seed.mod(BigInteger.ONE.shiftLeft(31)).intValue();
                p.base += high / 65536 % 10;
            }
            arrive += gone(other, 2).arrive();
        }
        return what == 0 ? arrive : n * now.people.size() - arrive;
    }

    int image() {
        taken = now.copied();
        return now.people.size();
    }

    int restore() {
        if (taken == null) return -3;
        now = taken.copied();
        return now.people.size();
    }

    int count(int what) {
        int bits = 0;
        for (int r = 0; r < now.trains.size(); r++) {
            bits += now.trains.get(r).cancelled ? 1 << r : 0;
        }
        int[] all = {now.people.size(), now.trains.size(), bits, now.late, now.gap, now.slow, now.halt,
            Arrays.stream(now.run).sum()};
        return in(what, 0, 7) ? all[what] : -1;
    }

    int keep(int d, int what, int k, int figure) {
        if (!in(d, 0, 7) || !in(what, 0, 1)) return -1;
        if (what == 0) {
            shelf[d] = null;
            return 0;
        }
        if (!in(k, 0, 7) || !in(figure, 0, 9)) return -1;
        shelf[d] = new int[] {k, figure};
        return 0;
    }

    int row(int d, int sort, int n) {
        if (!in(d, 0, 7) || !in(sort, 0, 2) || n > 100) return -1;
        if (n < 0) return -14;
        Row row = new Row();
        row.sort = sort;
        row.cells = new long[n];
        shelf[d] = row;
        return 0;
    }

    int put(int d, int i, int v) {
        if (!in(d, 0, 7)) return -1;
        if (shelf[d] == null) return -11;
        if (!(shelf[d] instanceof Row)) return -12;
        Row row = (Row) shelf[d];
        if (!in(i, 0, row.cells.length - 1)) return -13;
        long size = 1L << (8 << row.sort);
        long low = Math.floorMod((long) v, size);
        row.cells[i] = low >= size / 2 ? low - size : low;
        return 0;
    }

    long element(int d, int i) {
        if (!in(d, 0, 7)) throw new IllegalArgumentException();
        if (!(shelf[d] instanceof Row)) throw new IllegalStateException();
        Row row = (Row) shelf[d];
        if (!in(i, 0, row.cells.length - 1)) throw new IllegalStateException();
        return row.cells[i];
    }

    int copy(int d, int i, int e, int j, int n) {
        if (!in(d, 0, 7) || !in(e, 0, 7)) return -1;
        if (shelf[d] == null || shelf[e] == null) return -11;
        if (!(shelf[d] instanceof Row) || !(shelf[e] instanceof Row)) return -12;
        Row a = (Row) shelf[d];
        Row b = (Row) shelf[e];
        if (a.sort != b.sort) return -12;
        if (i < 0 || j < 0 || n < 0) return -13;
        if ((long) i + n > a.cells.length || (long) j + n > b.cells.length) return -13;
        long[] part = Arrays.copyOfRange(a.cells, i, i + n);
        for (int k = 0; k < n; k++) {
            b.cells[j + k] = part[k];
        }
        return n;
    }

    private int refusesOne(int d) {
        return !in(d, 0, 7) ? -1 : shelf[d] == null ? -11 : shelf[d] instanceof Row ? -12 : 0;
    }

    int cost(int d) {
        if (refusesOne(d) != 0) return refusesOne(d);
        int[] one = (int[]) shelf[d];
        return new Person(one[0], one[1], 0, 1, 0).cost();
    }

    int toss(int d) {
        if (refusesOne(d) != 0) return refusesOne(d);
        int[] one = (int[]) shelf[d];
        if (one[0] == 4 || one[1] == 0) return -15;
        if (one[0] == 6) return 200 + cost(d);
        return one[1] + (one[0] == 2 || one[0] == 3 ? 100 : 0);
    }
}
