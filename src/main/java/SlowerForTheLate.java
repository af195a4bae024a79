/**
 * Trains that are each followed by a slower second and a still slower third, and travellers who come
 * in time or not. One object holds what is told of a day, one image of that, and eight shelves.
 */
public final class SlowerForTheLate {
    private static final int NO_SUCH = -1;
    private static final int NO_ROOM = -2;
    private static final int NOT_AS_IT_MUST_BE = -3;
    private static final int NONE = -4;
    private static final int NOTHING_HELD = -11;
    private static final int OTHER_KIND = -12;
    private static final int NO_PLACE = -13;
    private static final int BELOW_ZERO = -14;
    private static final int NO_FAILURE = -15;
    /** Differences may be -1, and longs are refused likewise: there "no such one" is this number. */
    private static final int NO_SUCH_DIFFERENCE = -1000000001;
    private static final int FAULT_OF_FORM = -1000;
    private static final int FAULT_OF_SENSE = -2000;

    private static final int SHELVES = 8;
    private static final int MOST_LATER = 60;
    private static final int MOST_SNOW = 30;
    private static final int MOST_MORNINGS = 20;
    private static final int ODDS_OF = 10;
    private static final int CHOICES = 3;
    private static final int ALL_BUT_SIGN = 0x7fffffff;
    private static final int MORE_THAN_ANY_WORTH = 1000000;

    private final Plan now = new Plan();
    private final Plan trial = new Plan();
    private final Plan picture = new Plan();
    private boolean pictured = false;
    private final Trip trip = new Trip();
    private final Walker[] keptOnes = new Walker[SHELVES];
    private final Row[] keptRows = new Row[SHELVES];
    private final int[] oneArrives = new int[CHOICES * CHOICES];
    private final int[] otherArrives = new int[CHOICES * CHOICES];

    public SlowerForTheLate() {
    }

    // ---- the day as told

    public int day(int d) {
        int refusal = refusalOfRow(d);
        if (refusal != 0) {
            return refusal;
        }
        Row text = keptRows[d];
        if (text.sort != Row.BYTES) {
            return OTHER_KIND;
        }
        int bad = firstBadByte(text);
        if (bad >= 0) {
            return FAULT_OF_FORM - bad;
        }
        trial.become(now);
        int statements = 0;
        int at = 0;
        while (at < text.size()) {
            if (!trial.tell(text, at)) {
                return FAULT_OF_SENSE - at;
            }
            statements++;
            at += digitsBehind(text.at(at)) + 2;
        }
        now.become(trial);
        return statements;
    }

    public int traveller(int t, int what) {
        if (!now.isPerson(t)) {
            return NO_SUCH;
        }
        Walker one = now.ones[t];
        switch (what) {
            case 0: return one.kind;
            case 1: return one.figure;
            case 2: return now.from[t];
            case 3: return now.to[t];
            case 4: return now.base[t];
            case 5: return one.comesAt(now.base[t]);
            case 6: return one.excuse();
            case 7: return one.rank();
            case 8: return one.places();
            case 9: return one.offAt(now.to[t]);
            default: return NO_SUCH;
        }
    }

    public int takes(int t, int d) {
        if (!now.isPerson(t) || !isDepth(d)) {
            return NO_SUCH;
        }
        return now.ones[t].boards(d) ? 1 : 0;
    }

    public int refund(int t, int d) {
        if (!now.isPerson(t) || !isDepth(d)) {
            return NO_SUCH;
        }
        return now.ones[t].refundFor(d);
    }

    public int comes(int d, int from, int to, int base) {
        if (!isShelf(d) || !Plan.isStop(from) || !Plan.isStop(to) || !Plan.isBase(base)) {
            return NO_SUCH;
        }
        if (isEmpty(d)) {
            return NOTHING_HELD;
        }
        Walker one = keptOnes[d];
        if (one == null) {
            return OTHER_KIND;
        }
        if (from >= to) {
            return NOT_AS_IT_MUST_BE;
        }
        if (!now.addPerson(one, from, to, base)) {
            return NO_ROOM;
        }
        return now.people - 1;
    }

    public int leaves(int t) {
        if (!now.isPerson(t)) {
            return NO_SUCH;
        }
        now.dropPerson(t);
        return now.people;
    }

    public int base(int t, int v) {
        if (!now.isPerson(t) || !Plan.isBase(v)) {
            return NO_SUCH;
        }
        int was = now.base[t];
        now.base[t] = v;
        return was;
    }

    public int train(int start, int seats) {
        if (!Plan.isStart(start) || !Plan.isSeats(seats)) {
            return NO_SUCH;
        }
        if (!now.addTrain(start, seats)) {
            return NO_ROOM;
        }
        return now.trains - 1;
    }

    public int about(int train, int what) {
        if (!now.isTrain(train)) {
            return NO_SUCH;
        }
        switch (what) {
            case 0: return now.start[train];
            case 1: return now.seats[train];
            case 2: return now.cancelled[train] ? 1 : 0;
            default: return NO_SUCH;
        }
    }

    public int cancels(int train) {
        if (!now.isTrain(train)) {
            return NO_SUCH;
        }
        now.turnCancelled(train);
        return now.cancelled[train] ? 1 : 0;
    }

    public int run(int piece, int v) {
        if (!Plan.isPiece(piece) || !Plan.isRun(v)) {
            return NO_SUCH;
        }
        int was = now.runs[piece];
        now.runs[piece] = v;
        return was;
    }

    public int set(int what, int v) {
        if (!Plan.isRule(what, v)) {
            return NO_SUCH;
        }
        int was = now.rules[what];
        now.rules[what] = v;
        return was;
    }

    // ---- a day

    public int fate(int t, int what) {
        if (!now.isPerson(t) || what < 0 || what > 7) {
            return NO_SUCH;
        }
        trip.go(now, Plan.THIRD);
        if (what == 0) {
            return trip.arrives(t) ? 1 : 0;
        }
        if (what == 6) {
            return trip.missedBy(t);
        }
        if (what == 7) {
            return trip.pushed[t];
        }
        return trip.arrives(t) ? rideOf(t, what) : NONE;
    }

    public int when(int train, int depth, int stop) {
        if (!now.isTrain(train) || !isDepth(depth) || !Plan.isStop(stop)) {
            return NO_SUCH;
        }
        trip.go(now, Plan.THIRD);
        return trip.minuteAt[Trip.place(train, depth, stop)];
    }

    public int sums(int what) {
        if (what < 0 || what > 5) {
            return NO_SUCH;
        }
        trip.go(now, Plan.THIRD);
        switch (what) {
            case 0: return trip.arriving();
            case 1: return now.people - trip.arriving();
            case 2: return allMissed();
            case 3: return allWaited();
            case 4: return allRefunds();
            default: return trip.latest();
        }
    }

    public int aboard(int train, int depth, int stop) {
        if (!now.isTrain(train) || !isDepth(depth) || !Plan.isStop(stop)) {
            return NO_SUCH;
        }
        trip.go(now, Plan.THIRD);
        return trip.aboardFrom[Trip.place(train, depth, stop)];
    }

    public int fullest(int train, int depth) {
        if (!now.isTrain(train) || !isDepth(depth)) {
            return NO_SUCH;
        }
        trip.go(now, Plan.THIRD);
        return trip.mostTaken[Plan.numberOf(train, depth)];
    }

    // ---- coming later

    public int later(int t, int what) {
        if (!now.isPerson(t) || what < 0 || what > 1) {
            return NO_SUCH;
        }
        trial.become(now);
        int best = 0;
        int soonest = arrivalFrom(t, now.base[t]);
        for (int m = 1; m <= MOST_LATER; m++) {
            int minute = arrivalFrom(t, now.base[t] + m);
            if (minute < soonest) {
                soonest = minute;
                best = m;
            }
        }
        return what == 0 ? best : soonest;
    }

    public int slack(int t) {
        if (!now.isPerson(t)) {
            return NO_SUCH;
        }
        trial.become(now);
        int asNow = arrivalFrom(t, now.base[t]);
        for (int m = MOST_LATER; m > 0; m--) {
            if (arrivalFrom(t, now.base[t] + m) <= asNow) {
                return m;
            }
        }
        return 0;
    }

    public int odds(int t) {
        if (!now.isPerson(t)) {
            return NO_SUCH;
        }
        trial.become(now);
        int good = 0;
        for (int m = 0; m < ODDS_OF; m++) {
            if (arrivalFrom(t, now.base[t] + m) < Trip.STRANDED_MINUTE) {
                good++;
            }
        }
        return good;
    }

    public long mean(int t, int part) {
        if (!now.isPerson(t) || part < 0 || part > 1) {
            return NO_SUCH_DIFFERENCE;
        }
        trial.become(now);
        int good = 0;
        int sum = 0;
        for (int m = 0; m < ODDS_OF; m++) {
            int minute = arrivalFrom(t, now.base[t] + m);
            if (minute < Trip.STRANDED_MINUTE) {
                good++;
                sum += minute;
            }
        }
        if (good == 0) {
            return part == 0 ? 0 : 1;
        }
        return inLeastTerms(part == 0 ? sum : good, sum, good);
    }

    public int two(int a, int b) {
        if (!now.isPerson(a) || !now.isPerson(b) || a == b) {
            return NO_SUCH;
        }
        trial.become(now);
        for (int i = 0; i < CHOICES; i++) {
            for (int j = 0; j < CHOICES; j++) {
                trial.base[a] = now.base[a] + 5 * i;
                trial.base[b] = now.base[b] + 5 * j;
                trip.go(trial, Plan.THIRD);
                oneArrives[CHOICES * i + j] = trip.arrivalOf(a);
                otherArrives[CHOICES * i + j] = trip.arrivalOf(b);
            }
        }
        for (int i = 0; i < CHOICES; i++) {
            for (int j = 0; j < CHOICES; j++) {
                if (neitherGains(i, j)) {
                    return 10 * i + j;
                }
            }
        }
        return NONE;
    }

    public int whose(int t) {
        if (!now.isPerson(t)) {
            return NO_SUCH;
        }
        trip.go(now, Plan.THIRD);
        int asNow = trip.arrivalOf(t);
        int bits = 0;
        for (int other = 0; other < now.people; other++) {
            if (other == t) {
                continue;
            }
            trial.become(now);
            trial.dropPerson(other);
            trip.go(trial, Plan.THIRD);
            if (trip.arrivalOf(other < t ? t - 1 : t) < asNow) {
                bits |= 1 << other;
            }
        }
        return bits;
    }

    public int together(int a, int b) {
        if (!now.isPerson(a) || !now.isPerson(b) || a == b) {
            return NO_SUCH;
        }
        trip.go(now, Plan.THIRD);
        if (!trip.arrives(a) || trip.ticket[a] != trip.ticket[b]) {
            return 0;
        }
        int since = Math.max(trip.onAt[a], trip.onAt[b]);
        int until = Math.min(trip.arrivedAt[a], trip.arrivedAt[b]);
        return Math.max(0, until - since);
    }

    // ---- trains otherwise

    public int cancel(int train) {
        if (!now.isTrain(train)) {
            return NO_SUCH_DIFFERENCE;
        }
        trip.go(now, Plan.THIRD);
        int asNow = trip.arriving();
        trial.become(now);
        trial.turnCancelled(train);
        trip.go(trial, Plan.THIRD);
        return trip.arriving() - asNow;
    }

    public int strike() {
        trip.go(now, Plan.FIRST);
        return trip.arriving();
    }

    public int snow(int n) {
        if (n < 0 || n > MOST_SNOW) {
            return NO_SUCH;
        }
        trial.become(now);
        for (int piece = 0; piece < Plan.PIECES; piece++) {
            trial.runs[piece] += n;
        }
        trip.go(trial, Plan.THIRD);
        return trip.latest();
    }

    public int law(int late) {
        if (!Plan.isRule(Plan.LATE, late)) {
            return NO_SUCH_DIFFERENCE;
        }
        trip.go(now, Plan.THIRD);
        int asNow = trip.arriving();
        trial.become(now);
        return arrivingWithLate(late) - asNow;
    }

    public int bestLate() {
        trial.become(now);
        int best = 0;
        int most = arrivingWithLate(0);
        for (int late = 1; late <= Plan.MOST_LATE; late++) {
            int arriving = arrivingWithLate(late);
            if (arriving > most) {
                most = arriving;
                best = late;
            }
        }
        return best;
    }

    public int worth() {
        trip.go(now, Plan.THIRD);
        return trip.allArrivals();
    }

    public int bestGap() {
        trial.become(now);
        int best = 1;
        int least = MORE_THAN_ANY_WORTH;
        for (int gap = 1; gap <= Plan.MOST_GAP; gap++) {
            trial.rules[Plan.GAP] = gap;
            trip.go(trial, Plan.THIRD);
            int worth = trip.allArrivals();
            if (worth < least) {
                least = worth;
                best = gap;
            }
        }
        return best;
    }

    public int bestStart(int train) {
        if (!now.isTrain(train)) {
            return NO_SUCH;
        }
        trial.become(now);
        int first = Math.max(0, now.start[train] - 20);
        int last = Math.min(Plan.MOST_START, now.start[train] + 20);
        return startOfLeastWorth(train, first, last, 1);
    }

    public int need(int train) {
        if (!now.isTrain(train)) {
            return NO_SUCH;
        }
        trial.become(now);
        for (int seats = 0; seats <= Plan.MOST_SEATS; seats++) {
            trial.seats[train] = seats;
            trip.go(trial, Plan.THIRD);
            if (trip.arriving() == trial.people) {
                return seats;
            }
        }
        return NONE;
    }

    public int extra() {
        trial.become(now);
        if (!trial.addTrain(0, Plan.MOST_SEATS)) {
            return NONE;
        }
        return startOfLeastWorth(trial.trains - 1, 0, Plan.MOST_START, 10);
    }

    // ---- days explained

    public int tickets(int d, int what) {
        if (what < 0 || what > 1) {
            return NO_SUCH;
        }
        int refusal = refusalOfTickets(d);
        if (refusal != 0) {
            return refusal;
        }
        Row told = keptRows[d];
        trial.become(now);
        int fitting = 0;
        int least = NONE;
        for (int late = Plan.MOST_LATE; late >= 0; late--) {
            if (firstMisfit(told, late) == told.size()) {
                fitting++;
                least = late;
            }
        }
        return what == 0 ? fitting : least;
    }

    public int forged(int d) {
        int refusal = refusalOfTickets(d);
        if (refusal != 0) {
            return refusal;
        }
        Row told = keptRows[d];
        trial.become(now);
        int farthest = 0;
        for (int late = 0; late <= Plan.MOST_LATE; late++) {
            farthest = Math.max(farthest, firstMisfit(told, late));
        }
        return farthest < told.size() ? farthest : NONE;
    }

    public int came(int t, int minute, int what) {
        if (!now.isPerson(t) || minute < 0 || minute > Trip.STRANDED_MINUTE || what < 0 || what > 1) {
            return NO_SUCH;
        }
        trial.become(now);
        int fitting = 0;
        int least = NONE;
        for (int base = Plan.MOST_BASE; base >= 0; base--) {
            if (arrivalFrom(t, base) == minute) {
                fitting++;
                least = base;
            }
        }
        return what == 0 ? fitting : least;
    }

    public int sure(int t, int what) {
        if (!now.isPerson(t) || what < 0 || what > 1) {
            return NO_SUCH;
        }
        trial.become(now);
        int withEach = -1;
        int withSome = 0;
        for (int m = 0; m < ODDS_OF; m++) {
            trial.base[t] = now.base[t] + m;
            trip.go(trial, Plan.THIRD);
            int taken = trip.arrives(t) ? 1 << trip.ticket[t] : 0;
            withEach &= taken;
            withSome |= taken;
        }
        return what == 0 ? withEach : withSome;
    }

    public int judge(int t, int d) {
        if (!now.isPerson(t)) {
            return NO_SUCH;
        }
        int refusal = refusalOfRow(d);
        if (refusal != 0) {
            return refusal;
        }
        Row told = keptRows[d];
        trip.go(now, Plan.THIRD);
        for (int i = 0; i < told.size(); i++) {
            if (!told.isSkipped(i) && told.at(i) != whereabouts(t, 10 * i)) {
                return i;
            }
        }
        return NONE;
    }

    public int mornings(int n, int z, int what) {
        if (n < 1 || n > MOST_MORNINGS || what < 0 || what > 1) {
            return NO_SUCH;
        }
        trial.become(now);
        int seed = z;
        int arriving = 0;
        for (int morning = 0; morning < n; morning++) {
            for (int t = 0; t < now.people; t++) {
                seed = seed * 1103515245 + 12345;
                trial.base[t] = now.base[t] + (seed & ALL_BUT_SIGN) / 65536 % 10;
            }
            trip.go(trial, Plan.THIRD);
            arriving += trip.arriving();
        }
        return what == 0 ? arriving : n * now.people - arriving;
    }

    // ---- the image, what is told

    public int image() {
        picture.become(now);
        pictured = true;
        return now.people;
    }

    public int restore() {
        if (!pictured) {
            return NOT_AS_IT_MUST_BE;
        }
        now.become(picture);
        return now.people;
    }

    public int count(int what) {
        switch (what) {
            case 0: return now.people;
            case 1: return now.trains;
            case 2: return now.cancelledBits();
            case 3: return now.rules[Plan.LATE];
            case 4: return now.rules[Plan.GAP];
            case 5: return now.rules[Plan.SLOW];
            case 6: return now.rules[Plan.HALT];
            case 7: return now.allRuns();
            default: return NO_SUCH;
        }
    }

    // ---- shelves

    public int keep(int d, int what, int k, int figure) {
        if (!isShelf(d) || what < 0 || what > 1) {
            return NO_SUCH;
        }
        if (what == 1 && (!Walker.isKind(k) || !Walker.isFigure(figure))) {
            return NO_SUCH;
        }
        keptRows[d] = null;
        keptOnes[d] = what == 1 ? Walker.ofKind(k, figure) : null;
        return 0;
    }

    public int row(int d, int sort, int n) {
        if (!isShelf(d) || sort < Row.BYTES || sort > Row.INTS || n > Row.MOST_ELEMENTS) {
            return NO_SUCH;
        }
        if (n < 0) {
            return BELOW_ZERO;
        }
        keptOnes[d] = null;
        keptRows[d] = new Row(sort, n);
        return 0;
    }

    public int put(int d, int i, int v) {
        int refusal = refusalOfRow(d);
        if (refusal != 0) {
            return refusal;
        }
        if (!keptRows[d].has(i)) {
            return NO_PLACE;
        }
        keptRows[d].write(i, v);
        return 0;
    }

    public long element(int d, int i) throws IllegalArgumentException, IllegalStateException {
        if (!isShelf(d)) {
            throw new IllegalArgumentException("there is no such shelf");
        }
        if (keptRows[d] == null) {
            throw new IllegalStateException("there is no row on this shelf");
        }
        if (!keptRows[d].has(i)) {
            throw new IllegalStateException("there is no such place in this row");
        }
        return keptRows[d].at(i);
    }

    public int copy(int d, int i, int e, int j, int n) {
        if (!isShelf(d) || !isShelf(e)) {
            return NO_SUCH;
        }
        if (isEmpty(d) || isEmpty(e)) {
            return NOTHING_HELD;
        }
        Row source = keptRows[d];
        Row goal = keptRows[e];
        if (source == null || goal == null || source.sort != goal.sort) {
            return OTHER_KIND;
        }
        if (!source.hasRun(i, n) || !goal.hasRun(j, n)) {
            return NO_PLACE;
        }
        System.arraycopy(source.cells, i, goal.cells, j, n);
        return n;
    }

    public int cost(int d) {
        int refusal = refusalOfOne(d);
        return refusal != 0 ? refusal : keptOnes[d].price();
    }

    public int toss(int d) {
        int refusal = refusalOfOne(d);
        return refusal != 0 ? refusal : caught(keptOnes[d]);
    }

    // ---- what shelves refuse

    private static boolean isShelf(int d) {
        return d >= 0 && d < SHELVES;
    }

    private boolean isEmpty(int d) {
        return keptOnes[d] == null && keptRows[d] == null;
    }

    /** 0 if there is a row on the shelf. */
    private int refusalOfRow(int d) {
        if (!isShelf(d)) {
            return NO_SUCH;
        }
        if (isEmpty(d)) {
            return NOTHING_HELD;
        }
        return keptRows[d] == null ? OTHER_KIND : 0;
    }

    /** 0 if there is a row on the shelf that tells of no more than there are. */
    private int refusalOfTickets(int d) {
        int refusal = refusalOfRow(d);
        if (refusal != 0) {
            return refusal;
        }
        return keptRows[d].size() > now.people ? NO_PLACE : 0;
    }

    /** 0 if there is a traveller on the shelf. */
    private int refusalOfOne(int d) {
        if (!isShelf(d)) {
            return NO_SUCH;
        }
        if (isEmpty(d)) {
            return NOTHING_HELD;
        }
        return keptOnes[d] == null ? OTHER_KIND : 0;
    }

    // ---- the text of a day

    /** How many digits stand behind the letter of a statement; 0 if it is no such letter. */
    private static int digitsBehind(int letter) {
        switch (letter) {
            case 'r': return 3;
            case 't': return 4;
            case 'p': return 7;
            case 'l': return 2;
            case 'g': return 2;
            case 's': return 1;
            case 'h': return 1;
            case 'x': return 1;
            default: return 0;
        }
    }

    /** Reading beyond the end gives 0, which goes on with nothing: so what lacks is found at the end. */
    private static int firstBadByte(Row text) {
        int at = 0;
        do {
            int digits = digitsBehind(text.at(at));
            if (digits == 0) {
                return at;
            }
            for (int i = 1; i <= digits; i++) {
                if (text.at(at + i) < '0' || text.at(at + i) > '9') {
                    return at + i;
                }
            }
            at += digits + 1;
            if (text.at(at) != ';') {
                return at;
            }
            at++;
        } while (at < text.size());
        return -1;
    }

    // ---- what the trip tells

    private static boolean isDepth(int d) {
        return d >= Plan.FIRST && d <= Plan.THIRD;
    }

    private int rideOf(int t, int what) {
        switch (what) {
            case 1: return trip.ticket[t] / Plan.DEPTHS;
            case 2: return trip.ticket[t] % Plan.DEPTHS;
            case 3: return trip.onAt[t];
            case 4: return trip.arrivedAt[t];
            default: return now.ones[t].offAt(now.to[t]);
        }
    }

    private int allMissed() {
        int sum = 0;
        for (int t = 0; t < now.people; t++) {
            sum += trip.missedBy(t);
        }
        return sum;
    }

    private int allWaited() {
        int sum = 0;
        for (int t = 0; t < now.people; t++) {
            if (trip.arrives(t)) {
                sum += trip.onAt[t] - trip.comesAt[t];
            }
        }
        return sum;
    }

    private int allRefunds() {
        int sum = 0;
        for (int t = 0; t < now.people; t++) {
            if (trip.arrives(t)) {
                sum += now.ones[t].refundFor(trip.ticket[t] % Plan.DEPTHS);
            }
        }
        return sum;
    }

    /** Stop 0 to 4, 5 aboard, 6 not yet come: behind all events up to this minute. */
    private int whereabouts(int t, int minute) {
        if (trip.arrives(t) && trip.arrivedAt[t] <= minute) {
            return now.ones[t].offAt(now.to[t]);
        }
        if (trip.arrives(t) && trip.onAt[t] <= minute) {
            return 5;
        }
        return trip.comesAt[t] <= minute ? now.from[t] : 6;
    }

    // ---- days that might be, told in the trial plan

    private int arrivalFrom(int t, int base) {
        trial.base[t] = base;
        trip.go(trial, Plan.THIRD);
        return trip.arrivalOf(t);
    }

    private int arrivingWithLate(int late) {
        trial.rules[Plan.LATE] = late;
        trip.go(trial, Plan.THIRD);
        return trip.arriving();
    }

    private int startOfLeastWorth(int train, int first, int last, int step) {
        int best = first;
        int least = MORE_THAN_ANY_WORTH;
        for (int start = first; start <= last; start += step) {
            trial.start[train] = start;
            trip.go(trial, Plan.THIRD);
            int worth = trip.allArrivals();
            if (worth < least) {
                least = worth;
                best = start;
            }
        }
        return best;
    }

    private boolean neitherGains(int i, int j) {
        int one = oneArrives[CHOICES * i + j];
        int other = otherArrives[CHOICES * i + j];
        for (int choice = 0; choice < CHOICES; choice++) {
            if (oneArrives[CHOICES * choice + j] < one || otherArrives[CHOICES * i + choice] < other) {
                return false;
            }
        }
        return true;
    }

    /** The first place that is not as told with this LATE; the row's size if all is so. */
    private int firstMisfit(Row told, int late) {
        trial.rules[Plan.LATE] = late;
        trip.go(trial, Plan.THIRD);
        for (int t = 0; t < told.size(); t++) {
            if (!told.isSkipped(t) && told.at(t) != trip.ticket[t]) {
                return t;
            }
        }
        return told.size();
    }

    /** Either side of a fraction; what is below its line is ten at most, so counting down is short. */
    private static int inLeastTerms(int side, int above, int below) {
        for (int divisor = below; divisor > 1; divisor--) {
            if (above % divisor == 0 && below % divisor == 0) {
                return side / divisor;
            }
        }
        return side;
    }

    /** Which exception comes tells which failure it is. */
    private static int caught(Walker one) {
        try {
            one.fail();
        } catch (UnsupportedOperationException aimed) {
            return 200 + one.price();
        } catch (IllegalArgumentException tardy) {
            return 100 + one.figure;
        } catch (IllegalStateException plain) {
            return one.figure;
        }
        return NO_FAILURE;
    }

    /** The kind that all others are under. It never changes, so plans and shelves may share one. */
    private static class Walker {
        final int kind;
        final int figure;

        Walker(int kind, int figure) {
            this.kind = kind;
            this.figure = figure;
        }

        static boolean isKind(int kind) {
            return kind >= 0 && kind <= 7;
        }

        static boolean isFigure(int figure) {
            return figure >= 0 && figure <= 9;
        }

        static Walker ofKind(int kind, int figure) {
            switch (kind) {
                case 1: return new Runner(kind, figure);
                case 2: return new Tardy(kind, figure);
                case 3: return new Lover(kind, figure);
                case 4: return new Staff(kind, figure);
                case 5: return new Sleeper(kind, figure);
                case 6: return new Aimer(kind, figure);
                case 7: return new Parent(kind, figure);
                default: return new Walker(kind, figure);
            }
        }

        int comesAt(int base) {
            return base;
        }

        int excuse() {
            return 0;
        }

        int rank() {
            return 2;
        }

        int places() {
            return 1;
        }

        int offAt(int to) {
            return to;
        }

        boolean boards(int depth) {
            return true;
        }

        int refundFor(int depth) {
            return 2 * depth;
        }

        int price() {
            return 5;
        }

        /** Throws, if there is a failure. */
        void fail() {
            if (figure > 0) {
                throw new IllegalStateException("one has failed");
            }
        }
    }

    private static class Runner extends Walker {
        Runner(int kind, int figure) {
            super(kind, figure);
        }

        int comesAt(int base) {
            return Math.max(0, super.comesAt(base) - figure);
        }

        int excuse() {
            return super.excuse() + 1;
        }

        int rank() {
            return super.rank() - 1;
        }

        int price() {
            return super.price() + 3;
        }
    }

    private static class Tardy extends Walker {
        Tardy(int kind, int figure) {
            super(kind, figure);
        }

        int comesAt(int base) {
            return super.comesAt(base) + figure;
        }

        int excuse() {
            return super.excuse() + figure;
        }

        int refundFor(int depth) {
            return Math.max(0, super.refundFor(depth) - 1);
        }

        /** With the excuse of whichever kind under this one it is. */
        int price() {
            return super.price() + excuse();
        }

        void fail() {
            if (figure > 0) {
                throw new IllegalArgumentException("a tardy one has failed");
            }
        }
    }

    private static final class Lover extends Tardy {
        Lover(int kind, int figure) {
            super(kind, figure);
        }

        int comesAt(int base) {
            return super.comesAt(base) + 2;
        }

        int excuse() {
            return super.excuse() + 5;
        }

        int rank() {
            return super.rank() + 1;
        }

        int price() {
            return 2 * super.price();
        }
    }

    private static final class Staff extends Runner {
        Staff(int kind, int figure) {
            super(kind, figure);
        }

        int comesAt(int base) {
            return Math.max(0, super.comesAt(base) - 3);
        }

        int excuse() {
            return 2 * super.excuse();
        }

        int rank() {
            return super.rank() - 1;
        }

        int refundFor(int depth) {
            return 0;
        }

        int price() {
            return super.price() - 8;
        }

        void fail() {
        }
    }

    private static final class Sleeper extends Walker {
        Sleeper(int kind, int figure) {
            super(kind, figure);
        }

        int excuse() {
            return super.excuse() + figure / 2;
        }

        int offAt(int to) {
            return Math.min(Plan.LAST_STOP, super.offAt(to) + 1);
        }

        int price() {
            return super.price() + 1;
        }
    }

    private static final class Aimer extends Tardy {
        Aimer(int kind, int figure) {
            super(kind, figure);
        }

        int excuse() {
            return Math.max(0, super.excuse() - 1);
        }

        boolean boards(int depth) {
            return depth == figure / 3;
        }

        int price() {
            return super.price() + 4;
        }

        void fail() {
            if (figure > 0) {
                throw new UnsupportedOperationException("one who aimed has failed");
            }
        }
    }

    private static final class Parent extends Walker {
        Parent(int kind, int figure) {
            super(kind, figure);
        }

        int excuse() {
            return super.excuse() + 6;
        }

        int places() {
            return 2;
        }

        int refundFor(int depth) {
            return 2 * super.refundFor(depth);
        }

        int price() {
            return 2 * super.price();
        }
    }

    /** A row of numbers, each kept as narrow as the sort is. */
    private static final class Row {
        static final int BYTES = 0;
        static final int SHORTS = 1;
        static final int INTS = 2;
        static final int MOST_ELEMENTS = 100;

        final int sort;
        final int[] cells;

        Row(int sort, int n) {
            this.sort = sort;
            this.cells = new int[n < 0 ? 0 : n];
        }

        int size() {
            return cells.length;
        }

        boolean has(int i) {
            return i >= 0 && i < cells.length;
        }

        /** Whether n places from i on are there; a difference, as a sum might wrap around. */
        boolean hasRun(int i, int n) {
            return i >= 0 && n >= 0 && n <= cells.length && i <= cells.length - n;
        }

        int at(int i) {
            return has(i) ? cells[i] : 0;
        }

        void write(int i, int v) {
            if (has(i)) {
                cells[i] = narrowed(v);
            }
        }

        private int narrowed(int v) {
            switch (sort) {
                case BYTES: return (byte) v;
                case SHORTS: return (short) v;
                default: return v;
            }
        }

        /** Whether the least number of the sort stands there, which tells nothing. */
        boolean isSkipped(int i) {
            switch (sort) {
                case BYTES: return at(i) == -128;
                case SHORTS: return at(i) == -32768;
                default: return at(i) == -2147483648;
            }
        }

        /** The number that so many digits tell from i on. */
        int number(int i, int digits) {
            int value = 0;
            for (int k = 0; k < digits; k++) {
                value = 10 * value + at(i + k) - '0';
            }
            return value;
        }
    }

    /** All that is told of a day. What is beyond its people and trains in the arrays does not count. */
    private static final class Plan {
        static final int FIRST = 0;
        static final int THIRD = 2;
        static final int DEPTHS = 3;
        static final int STOPS = 5;
        static final int LAST_STOP = 4;
        static final int PIECES = 4;
        static final int MOST_PEOPLE = 8;
        static final int MOST_TRAINS = 4;
        static final int MOST_START = 300;
        static final int MOST_SEATS = 9;
        static final int MOST_BASE = 300;
        static final int MOST_RUN = 60;
        static final int MOST_LATE = 30;
        static final int MOST_GAP = 30;
        static final int LATE = 0;
        static final int GAP = 1;
        static final int SLOW = 2;
        static final int HALT = 3;
        private static final int[] LEAST_RULES = {0, 1, 0, 0};
        private static final int[] MOST_RULES = {30, 30, 9, 9};

        int people = 0;
        final Walker[] ones = new Walker[MOST_PEOPLE];
        final int[] from = new int[MOST_PEOPLE];
        final int[] to = new int[MOST_PEOPLE];
        final int[] base = new int[MOST_PEOPLE];
        int trains = 0;
        final int[] start = new int[MOST_TRAINS];
        final int[] seats = new int[MOST_TRAINS];
        final boolean[] cancelled = new boolean[MOST_TRAINS];
        final int[] runs = {10, 10, 10, 10};
        final int[] rules = {10, 8, 5, 2};

        /** A walker stands in every place, so that none is null. */
        Plan() {
            Walker nobody = new Walker(0, 0);
            for (int t = 0; t < MOST_PEOPLE; t++) {
                ones[t] = nobody;
            }
        }

        static boolean isStop(int stop) {
            return stop >= 0 && stop <= LAST_STOP;
        }

        static boolean isPiece(int piece) {
            return piece >= 0 && piece < PIECES;
        }

        static boolean isRun(int v) {
            return v >= 1 && v <= MOST_RUN;
        }

        static boolean isStart(int v) {
            return v >= 0 && v <= MOST_START;
        }

        static boolean isSeats(int v) {
            return v >= 0 && v <= MOST_SEATS;
        }

        static boolean isBase(int v) {
            return v >= 0 && v <= MOST_BASE;
        }

        static boolean isRule(int rule, int v) {
            return rule >= LATE && rule <= HALT && v >= LEAST_RULES[rule] && v <= MOST_RULES[rule];
        }

        /** Trains and those behind them counted through; it is what a ticket tells, too. */
        static int numberOf(int train, int depth) {
            return DEPTHS * train + depth;
        }

        boolean isPerson(int t) {
            return t >= 0 && t < people;
        }

        boolean isTrain(int train) {
            return train >= 0 && train < trains;
        }

        boolean addPerson(Walker one, int fromStop, int toStop, int baseMinute) {
            if (people >= MOST_PEOPLE) {
                return false;
            }
            ones[people] = one;
            from[people] = fromStop;
            to[people] = toStop;
            base[people] = baseMinute;
            people++;
            return true;
        }

        void dropPerson(int t) {
            if (!isPerson(t)) {
                return;
            }
            for (int i = t; i + 1 < people; i++) {
                ones[i] = ones[i + 1];
                from[i] = from[i + 1];
                to[i] = to[i + 1];
                base[i] = base[i + 1];
            }
            people--;
        }

        boolean addTrain(int startMinute, int seatCount) {
            if (trains >= MOST_TRAINS) {
                return false;
            }
            start[trains] = startMinute;
            seats[trains] = seatCount;
            cancelled[trains] = false;
            trains++;
            return true;
        }

        void turnCancelled(int train) {
            if (isTrain(train)) {
                cancelled[train] = !cancelled[train];
            }
        }

        int cancelledBits() {
            int bits = 0;
            for (int train = 0; train < trains; train++) {
                if (cancelled[train]) {
                    bits |= 1 << train;
                }
            }
            return bits;
        }

        int allRuns() {
            int sum = 0;
            for (int run : runs) {
                sum += run;
            }
            return sum;
        }

        /** The minutes that one of this depth takes on a piece. */
        int ride(int piece, int depth) {
            return runs[piece] + runs[piece] * depth * rules[SLOW] / 10;
        }

        void become(Plan other) {
            people = other.people;
            for (int t = 0; t < MOST_PEOPLE; t++) {
                ones[t] = other.ones[t];
                from[t] = other.from[t];
                to[t] = other.to[t];
                base[t] = other.base[t];
            }
            trains = other.trains;
            for (int train = 0; train < MOST_TRAINS; train++) {
                start[train] = other.start[train];
                seats[train] = other.seats[train];
                cancelled[train] = other.cancelled[train];
            }
            System.arraycopy(other.runs, 0, runs, 0, runs.length);
            System.arraycopy(other.rules, 0, rules, 0, rules.length);
        }

        /** Does what the statement at this place of a well-formed text says; false if it can't be done. */
        boolean tell(Row text, int at) {
            switch (text.at(at)) {
                case 'r': return tellRun(text.number(at + 1, 1), text.number(at + 2, 2));
                case 't': return tellTrain(text.number(at + 1, 3), text.number(at + 4, 1));
                case 'p': return tellPerson(text, at);
                case 'l': return tellRule(LATE, text.number(at + 1, 2));
                case 'g': return tellRule(GAP, text.number(at + 1, 2));
                case 's': return tellRule(SLOW, text.number(at + 1, 1));
                case 'h': return tellRule(HALT, text.number(at + 1, 1));
                case 'x': return tellCancelled(text.number(at + 1, 1));
                default: return false;
            }
        }

        private boolean tellRun(int piece, int v) {
            if (!isPiece(piece) || !isRun(v)) {
                return false;
            }
            runs[piece] = v;
            return true;
        }

        private boolean tellTrain(int startMinute, int seatCount) {
            return isStart(startMinute) && isSeats(seatCount) && addTrain(startMinute, seatCount);
        }

        private boolean tellPerson(Row text, int at) {
            int kind = text.number(at + 1, 1);
            int figure = text.number(at + 2, 1);
            int fromStop = text.number(at + 3, 1);
            int toStop = text.number(at + 4, 1);
            int baseMinute = text.number(at + 5, 3);
            if (!Walker.isKind(kind) || !Walker.isFigure(figure) || !isBase(baseMinute)) {
                return false;
            }
            if (!isStop(fromStop) || !isStop(toStop) || fromStop >= toStop) {
                return false;
            }
            return addPerson(Walker.ofKind(kind, figure), fromStop, toStop, baseMinute);
        }

        private boolean tellRule(int rule, int v) {
            if (!isRule(rule, v)) {
                return false;
            }
            rules[rule] = v;
            return true;
        }

        private boolean tellCancelled(int train) {
            if (!isTrain(train)) {
                return false;
            }
            turnCancelled(train);
            return true;
        }
    }

    /** A plan gone through. Its arrays are made once and hold what came of the last plan gone. */
    private static final class Trip {
        static final int STRANDED = -1;
        static final int STRANDED_MINUTE = 2000;
        private static final int MOST_RUNNING = Plan.MOST_TRAINS * Plan.DEPTHS;

        // by travellers: what they are like on this day
        final int[] comesAt = new int[Plan.MOST_PEOPLE];
        private final int[] turn = new int[Plan.MOST_PEOPLE];
        private final int[] mayBeLate = new int[Plan.MOST_PEOPLE];
        private final int[] places = new int[Plan.MOST_PEOPLE];
        private final int[] offAt = new int[Plan.MOST_PEOPLE];
        private final int[] asked = new int[Plan.MOST_PEOPLE];
        private int people = 0;

        // by travellers: what became of them
        final int[] ticket = new int[Plan.MOST_PEOPLE];
        final int[] onAt = new int[Plan.MOST_PEOPLE];
        final int[] arrivedAt = new int[Plan.MOST_PEOPLE];
        final int[] pushed = new int[Plan.MOST_PEOPLE];
        private final int[] missed = new int[Plan.MOST_PEOPLE];

        // by trains counted through, and stops
        final int[] minuteAt = new int[MOST_RUNNING * Plan.STOPS];
        final int[] aboardFrom = new int[MOST_RUNNING * Plan.STOPS];
        final int[] mostTaken = new int[MOST_RUNNING];
        private final int[] aboardBits = new int[MOST_RUNNING];
        private final int[] taken = new int[MOST_RUNNING];
        private final int[] queue = new int[MOST_RUNNING];
        private int running = 0;

        static int place(int train, int depth, int stop) {
            return Plan.STOPS * Plan.numberOf(train, depth) + stop;
        }

        boolean arrives(int t) {
            return ticket[t] != STRANDED;
        }

        int arrivalOf(int t) {
            return arrives(t) ? arrivedAt[t] : STRANDED_MINUTE;
        }

        /** One meets a train once, at the stop one comes from: so the bits are as many as the times. */
        int missedBy(int t) {
            return Integer.bitCount(missed[t]);
        }

        int arriving() {
            int sum = 0;
            for (int t = 0; t < people; t++) {
                if (arrives(t)) {
                    sum++;
                }
            }
            return sum;
        }

        int latest() {
            int latest = 0;
            for (int t = 0; t < people; t++) {
                if (arrives(t)) {
                    latest = Math.max(latest, arrivedAt[t]);
                }
            }
            return latest;
        }

        int allArrivals() {
            int sum = 0;
            for (int t = 0; t < people; t++) {
                sum += arrivalOf(t);
            }
            return sum;
        }

        /**
         * Goes stop by stop, and at a stop by minutes. That comes to the same as all events by minutes:
         * what happens at a stop hangs on earlier minutes there and on how the trains left the one ahead.
         */
        void go(Plan plan, int deepest) {
            setPeople(plan);
            setTrains(plan, deepest);
            for (int stop = 0; stop <= Plan.LAST_STOP; stop++) {
                orderTrains(stop);
                for (int i = 0; i < running; i++) {
                    atStop(plan, queue[i], stop);
                }
            }
        }

        private void setPeople(Plan plan) {
            people = plan.people;
            for (int t = 0; t < people; t++) {
                Walker one = plan.ones[t];
                comesAt[t] = one.comesAt(plan.base[t]);
                // a minute stays below 1000, so this orders by rank and then by minutes
                turn[t] = 1000 * one.rank() + comesAt[t];
                mayBeLate[t] = plan.rules[Plan.LATE] + one.excuse();
                places[t] = one.places();
                offAt[t] = one.offAt(plan.to[t]);
                ticket[t] = STRANDED;
                pushed[t] = 0;
                missed[t] = 0;
                line(t);
            }
        }

        /** Puts one among those of lesser number; of like turns the lesser number stays ahead. */
        private void line(int t) {
            int i = t;
            while (i > 0 && turn[t] < turn[asked[i - 1]]) {
                asked[i] = asked[i - 1];
                i--;
            }
            asked[i] = t;
        }

        private void setTrains(Plan plan, int deepest) {
            running = 0;
            for (int train = 0; train < plan.trains; train++) {
                for (int depth = 0; depth <= deepest; depth++) {
                    int number = Plan.numberOf(train, depth);
                    minuteAt[place(train, depth, 0)] = plan.start[train] + depth * plan.rules[Plan.GAP];
                    aboardBits[number] = 0;
                    taken[number] = 0;
                    mostTaken[number] = 0;
                    queue[running] = number;
                    running++;
                }
            }
        }

        private void orderTrains(int stop) {
            for (int k = 1; k < running; k++) {
                int number = queue[k];
                int i = k;
                while (i > 0 && isAhead(number, queue[i - 1], stop)) {
                    queue[i] = queue[i - 1];
                    i--;
                }
                queue[i] = number;
            }
        }

        private boolean isAhead(int number, int other, int stop) {
            int minute = minuteAt[Plan.STOPS * number + stop];
            int otherMinute = minuteAt[Plan.STOPS * other + stop];
            return minute < otherMinute || minute == otherMinute && number < other;
        }

        private void atStop(Plan plan, int number, int stop) {
            int place = Plan.STOPS * number + stop;
            boolean moved = letOff(number, stop);
            if (letOn(plan, number, stop)) {
                moved = true;
            }
            aboardFrom[place] = aboardBits[number];
            mostTaken[number] = Math.max(mostTaken[number], taken[number]);
            if (stop < Plan.LAST_STOP) {
                int depth = number % Plan.DEPTHS;
                int halt = moved && depth > Plan.FIRST ? plan.rules[Plan.HALT] : 0;
                minuteAt[place + 1] = minuteAt[place] + halt + plan.ride(stop, depth);
            }
        }

        private boolean letOff(int number, int stop) {
            boolean moved = false;
            for (int t = 0; t < people && aboardBits[number] != 0; t++) {
                if ((aboardBits[number] >> t & 1) == 1 && offAt[t] == stop) {
                    aboardBits[number] &= ~(1 << t);
                    taken[number] -= places[t];
                    arrivedAt[t] = minuteAt[Plan.STOPS * number + stop];
                    moved = true;
                }
            }
            return moved;
        }

        private boolean letOn(Plan plan, int number, int stop) {
            int minute = minuteAt[Plan.STOPS * number + stop];
            boolean moved = false;
            for (int i = 0; i < people; i++) {
                int t = asked[i];
                if (plan.from[t] == stop && !arrives(t) && isLetOn(plan, number, t, minute)) {
                    ticket[t] = number;
                    onAt[t] = minute;
                    aboardBits[number] |= 1 << t;
                    taken[number] += places[t];
                    moved = true;
                }
            }
            return moved;
        }

        /** Asks one; who is not let on may have missed it, or have been pushed back. */
        private boolean isLetOn(Plan plan, int number, int t, int minute) {
            int depth = number % Plan.DEPTHS;
            boolean may = may(plan, number, t);
            if (comesAt[t] <= minute && may && plan.ones[t].boards(depth)) {
                if (taken[number] + places[t] <= plan.seats[number / Plan.DEPTHS]) {
                    return true;
                }
                pushed[t]++;
            }
            if ((depth == Plan.FIRST || may) && comesAt[t] - minute <= mayBeLate[t]) {
                missed[t] |= 1 << number;
            }
            return false;
        }

        private boolean may(Plan plan, int number, int t) {
            if (number % Plan.DEPTHS == Plan.FIRST) {
                return !plan.cancelled[number / Plan.DEPTHS];
            }
            return (missed[t] >> number - 1 & 1) == 1;
        }
    }
}
