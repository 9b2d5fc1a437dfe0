/** A panel of gauges, conditions between them, and trips that vote on the conditions. */
public final class TripPanel {
    public static final int NONE = -1, GAP = 2000000000;

    private static final int OUTSIDE = -4, MISSING = -2, STILL_DUE = -5;
    private static final int GAUGES = 16, CONDITIONS = 24, TRIPS = 8;
    private static final int MOST_VOTES = 6, MOST_PARTS = 6;
    private static final int ROW_LENGTH = 12, EVENTS_KEPT = 20;
    private static final int GREATEST_NUMBER = 1000000000, GREATEST_BAND = 1000000;
    private static final int THOUSAND = 1000;
    private static final int LESS = 0, LESS_OR_SAME = 1, GREATER = 2, GREATER_OR_SAME = 3, SAME = 4, UNLIKE = 5;
    private static final int CUT = 0, STEADY = 1, MOVED = 2;

    private final Gauge[] gauges = new Gauge[GAUGES];
    private final Condition[] conditions = new Condition[CONDITIONS];
    private final Trip[] trips = new Trip[TRIPS];
    private final Latest eventTrips = new Latest(EVENTS_KEPT);
    private final Latest eventScans = new Latest(EVENTS_KEPT);
    private final Latest eventConditions = new Latest(EVENTS_KEPT);
    private int scans = 0;
    private int movedTakings = 0;
    private int steadyTakings = 0;
    private int cutTakings = 0;
    private int eventsEver = 0;

    public TripPanel() {
    }

    public int make(int g, boolean narrow) {
        if (g < 0 || g >= gauges.length) {
            return OUTSIDE;
        }
        if (gauges[g] != null) {
            return 0;
        }
        gauges[g] = new Gauge(narrow);
        return 1;
    }

    public int limit(int g, boolean high, int n) {
        if (!isNumber(n)) {
            return OUTSIDE;
        }
        Gauge gauge = gaugeAt(g);
        if (gauge == null) {
            return MISSING;
        }
        gauge.putLimit(high, n);
        return 1;
    }

    public int open(int g, boolean high) {
        Gauge gauge = gaugeAt(g);
        if (gauge == null) {
            return MISSING;
        }
        boolean wasThere = gauge.hasLimit(high);
        gauge.putLimit(high, GAP);
        return asAnswer(wasThere);
    }

    public int band(int g, int n) {
        if (n < 0 || n > GREATEST_BAND) {
            return OUTSIDE;
        }
        Gauge gauge = gaugeAt(g);
        if (gauge == null) {
            return MISSING;
        }
        gauge.band = n;
        return 1;
    }

    public int take(int g, int n) {
        if (!isNumber(n)) {
            return OUTSIDE;
        }
        Gauge gauge = gaugeAt(g);
        if (gauge == null) {
            return MISSING;
        }
        int taking = gauge.receive(n);
        countTaking(taking);
        return taking;
    }

    public int gap(int g) {
        Gauge gauge = gaugeAt(g);
        if (gauge == null) {
            return MISSING;
        }
        boolean hadValue = gauge.hasValue();
        gauge.lose();
        return asAnswer(hadValue);
    }

    public int clear(int g) {
        Gauge gauge = gaugeAt(g);
        if (gauge == null) {
            return MISSING;
        }
        gauge.forget();
        return 1;
    }

    public int shown(int g) {
        Gauge gauge = gaugeAt(g);
        return gauge == null ? GAP : gauge.number;
    }

    public int mark(int g, boolean greatest) {
        Gauge gauge = gaugeAt(g);
        if (gauge == null) {
            return GAP;
        }
        return greatest ? gauge.greatest : gauge.least;
    }

    public int stale(int g) {
        Gauge gauge = gaugeAt(g);
        return gauge == null ? MISSING : gauge.staleScans;
    }

    public int stands(int a, int relation, int b) {
        if (!isRelation(relation)) {
            return OUTSIDE;
        }
        Gauge left = gaugeAt(a);
        Gauge right = gaugeAt(b);
        if (left == null || right == null) {
            return MISSING;
        }
        return asAnswer(left.relates(left.number, relation, right, right.number));
    }

    public int between(int c, int relation, int a, int b, boolean turned) {
        if (!isConditionNumber(c) || !isRelation(relation)) {
            return OUTSIDE;
        }
        Gauge left = gaugeAt(a);
        Gauge right = gaugeAt(b);
        if (left == null || right == null) {
            return MISSING;
        }
        conditions[c] = new Condition(relation, left, right, GAP, turned);
        return 1;
    }

    public int level(int c, int relation, int a, int n, boolean turned) {
        if (!isConditionNumber(c) || !isRelation(relation) || !isNumber(n)) {
            return OUTSIDE;
        }
        Gauge gauge = gaugeAt(a);
        if (gauge == null) {
            return MISSING;
        }
        conditions[c] = new Condition(relation, gauge, gauge, n, turned);
        return 1;
    }

    public int holds(int c) {
        Condition condition = conditionAt(c);
        return condition == null ? MISSING : asAnswer(condition.isMet());
    }

    public int trip(int t, int votes) {
        if (t < 0 || t >= trips.length || votes < 1 || votes > MOST_VOTES) {
            return OUTSIDE;
        }
        trips[t] = new Trip(votes);
        return 1;
    }

    public int part(int t, int c) {
        Trip trip = tripAt(t);
        if (trip == null || conditionAt(c) == null) {
            return MISSING;
        }
        return trip.addPart(c) ? trip.partCount : NONE;
    }

    public int scan() {
        scans++;
        ageGauges();
        int newlyTripped = 0;
        for (int t = 0; t < trips.length; t++) {
            Trip trip = trips[t];
            if (trip != null && !trip.isTripped && isDue(trip)) {
                trip.isTripped = true;
                keepEvent(t, firstHolding(trip));
                newlyTripped++;
            }
        }
        return newlyTripped;
    }

    public int reset(int t) {
        Trip trip = tripAt(t);
        if (trip == null) {
            return MISSING;
        }
        if (isDue(trip)) {
            return STILL_DUE;
        }
        boolean wasTripped = trip.isTripped;
        trip.isTripped = false;
        return asAnswer(wasTripped);
    }

    public int votes(int t) {
        Trip trip = tripAt(t);
        return trip == null ? MISSING : countHolding(trip);
    }

    public int tripped(int t) {
        Trip trip = tripAt(t);
        return trip == null ? MISSING : asAnswer(trip.isTripped);
    }

    public int order(int k) {
        if (k < 0) {
            return NONE;
        }
        for (int g = 0; g < gauges.length; g++) {
            if (placeOf(g) == k) {
                return g;
            }
        }
        return NONE;
    }

    public int extreme(boolean greatest) {
        int relation = greatest ? GREATER : LESS;
        int best = NONE;
        Gauge bestGauge = null;
        for (int g = 0; g < gauges.length; g++) {
            Gauge gauge = gauges[g];
            if (gauge == null || !gauge.hasValue()) {
                continue;
            }
            if (bestGauge == null || gauge.relates(gauge.number, relation, bestGauge, bestGauge.number)) {
                best = g;
                bestGauge = gauge;
            }
        }
        return best;
    }

    public int since(int g, int relation, int n) {
        if (!isRelation(relation) || !isNumber(n)) {
            return OUTSIDE;
        }
        Gauge gauge = gaugeAt(g);
        return gauge == null ? MISSING : gauge.rowUntil(relation, n);
    }

    public int counted(int g, int relation, int n) {
        if (!isRelation(relation) || !isNumber(n)) {
            return OUTSIDE;
        }
        Gauge gauge = gaugeAt(g);
        return gauge == null ? MISSING : gauge.rowCount(relation, n);
    }

    public int event(int k, int what) {
        switch (what) {
            case 0:
                return eventTrips.at(k);
            case 1:
                return eventScans.at(k);
            case 2:
                return eventConditions.at(k);
            default:
                return NONE;
        }
    }

    public int about(int what) {
        switch (what) {
            case 0:
                return countGauges();
            case 1:
                return scans;
            case 2:
                return movedTakings;
            case 3:
                return steadyTakings;
            case 4:
                return cutTakings;
            case 5:
                return countTripped();
            case 6:
                return eventsEver;
            default:
                return NONE;
        }
    }

    private static boolean isNumber(int n) {
        return n >= -GREATEST_NUMBER && n <= GREATEST_NUMBER;
    }

    private static boolean isRelation(int relation) {
        return relation >= LESS && relation <= UNLIKE;
    }

    private static int asAnswer(boolean yes) {
        return yes ? 1 : 0;
    }

    private boolean isConditionNumber(int c) {
        return c >= 0 && c < conditions.length;
    }

    private Gauge gaugeAt(int g) {
        return g >= 0 && g < gauges.length ? gauges[g] : null;
    }

    private Condition conditionAt(int c) {
        return isConditionNumber(c) ? conditions[c] : null;
    }

    private Trip tripAt(int t) {
        return t >= 0 && t < trips.length ? trips[t] : null;
    }

    private void countTaking(int taking) {
        if (taking == MOVED) {
            movedTakings++;
        } else if (taking == STEADY) {
            steadyTakings++;
        } else {
            cutTakings++;
        }
    }

    private void ageGauges() {
        for (int g = 0; g < gauges.length; g++) {
            Gauge gauge = gauges[g];
            if (gauge != null) {
                gauge.staleScans = gauge.hasValue() ? 0 : gauge.staleScans + 1;
            }
        }
    }

    private boolean isDue(Trip trip) {
        return countHolding(trip) >= trip.votesNeeded;
    }

    private int countHolding(Trip trip) {
        int holding = 0;
        for (int place = 0; place < trip.partCount; place++) {
            if (isHolding(trip.partAt(place))) {
                holding++;
            }
        }
        return holding;
    }

    private int firstHolding(Trip trip) {
        for (int place = 0; place < trip.partCount; place++) {
            if (isHolding(trip.partAt(place))) {
                return trip.partAt(place);
            }
        }
        return NONE;
    }

    private boolean isHolding(int c) {
        Condition condition = conditionAt(c);
        return condition != null && condition.isMet();
    }

    private void keepEvent(int t, int c) {
        eventTrips.push(t);
        eventScans.push(scans);
        eventConditions.push(c);
        eventsEver++;
    }

    private int placeOf(int g) {
        Gauge gauge = gaugeAt(g);
        if (gauge == null) {
            return NONE;
        }
        int before = 0;
        for (int other = 0; other < gauges.length; other++) {
            if (gauges[other] != null && comesBefore(gauges[other], gauge, other < g)) {
                before++;
            }
        }
        return before;
    }

    private static boolean comesBefore(Gauge first, Gauge second, boolean hasLessNumber) {
        if (!first.hasValue()) {
            return !second.hasValue() && hasLessNumber;
        }
        if (!second.hasValue()) {
            return true;
        }
        int relation = hasLessNumber ? GREATER_OR_SAME : GREATER;
        return first.relates(first.number, relation, second, second.number);
    }

    private int countGauges() {
        int made = 0;
        for (int g = 0; g < gauges.length; g++) {
            if (gauges[g] != null) {
                made++;
            }
        }
        return made;
    }

    private int countTripped() {
        int count = 0;
        for (int t = 0; t < trips.length; t++) {
            Trip trip = trips[t];
            if (trip != null && trip.isTripped) {
                count++;
            }
        }
        return count;
    }

    /**
     * Holds numbers, never values: a value follows from its number, and the face asks for numbers.
     * GAP, which is no number, stands for "none" in all of them.
     */
    private static final class Gauge {
        final boolean narrow;
        final Latest row = new Latest(ROW_LENGTH);
        int number = GAP;
        int low = GAP;
        int high = GAP;
        int band = 0;
        int greatest = GAP;
        int least = GAP;
        int staleScans = 0;

        Gauge(boolean narrow) {
            this.narrow = narrow;
        }

        boolean hasValue() {
            return number != GAP;
        }

        boolean hasLimit(boolean upper) {
            return (upper ? high : low) != GAP;
        }

        void putLimit(boolean upper, int n) {
            if (upper) {
                high = n;
            } else {
                low = n;
            }
        }

        int receive(int n) {
            int taking = kindOfTaking(n);
            if (taking == CUT) {
                number = GAP;
            } else if (taking == MOVED) {
                number = n;
                putMarks(n);
            }
            row.push(number);
            return taking;
        }

        void lose() {
            number = GAP;
            row.push(GAP);
        }

        void forget() {
            greatest = GAP;
            least = GAP;
            row.empty();
        }

        int rowUntil(int relation, int n) {
            int place = 0;
            while (place < row.size && !relates(row.at(place), relation, this, n)) {
                place++;
            }
            return place;
        }

        int rowCount(int relation, int n) {
            int count = 0;
            for (int place = 0; place < row.size; place++) {
                if (relates(row.at(place), relation, this, n)) {
                    count++;
                }
            }
            return count;
        }

        /** Whether a number of this gauge stands in a relation to a number of the other one. */
        boolean relates(int own, int relation, Gauge other, int others) {
            if (own == GAP || others == GAP) {
                return relation == UNLIKE;
            }
            return compares(valueOf(own), relation, other.valueOf(others));
        }

        private int kindOfTaking(int n) {
            if (isCut(n)) {
                return CUT;
            }
            return hasValue() && isWithinBand(n) ? STEADY : MOVED;
        }

        private boolean isCut(int n) {
            return relates(n, LESS, this, low) || relates(n, GREATER, this, high);
        }

        private boolean isWithinBand(int n) {
            return distance(valueOf(n), valueOf(number)) <= valueOf(band);
        }

        private void putMarks(int n) {
            if (greatest == GAP || relates(n, GREATER, this, greatest)) {
                greatest = n;
            }
            if (least == GAP || relates(n, LESS, this, least)) {
                least = n;
            }
        }

        /** A narrow value is given as a double too: each float is a double, so comparisons stay the same. */
        private double valueOf(int n) {
            if (narrow) {
                return (double) ((float) n / (float) THOUSAND);
            }
            return (double) n / (double) THOUSAND;
        }

        private double distance(double v, double w) {
            double greater = v >= w ? v : w;
            double lesser = v >= w ? w : v;
            if (narrow) {
                return (double) ((float) greater - (float) lesser);
            }
            return greater - lesser;
        }

        private static boolean compares(double left, int relation, double right) {
            switch (relation) {
                case LESS:
                    return left < right;
                case LESS_OR_SAME:
                    return left <= right;
                case GREATER:
                    return left > right;
                case GREATER_OR_SAME:
                    return left >= right;
                case SAME:
                    return left == right;
                default:
                    return left != right;
            }
        }
    }

    /** A condition with a level has its gauge on both sides: the level's value is the one for that gauge. */
    private static final class Condition {
        final int relation;
        final Gauge left;
        final Gauge right;
        final int levelNumber;
        final boolean turned;

        Condition(int relation, Gauge left, Gauge right, int levelNumber, boolean turned) {
            this.relation = relation;
            this.left = left;
            this.right = right;
            this.levelNumber = levelNumber;
            this.turned = turned;
        }

        boolean isMet() {
            int rightNumber = levelNumber == GAP ? right.number : levelNumber;
            return left.relates(left.number, relation, right, rightNumber) != turned;
        }
    }

    /** Keeps the numbers of its conditions, so that a condition that is defined anew is so here, too. */
    private static final class Trip {
        final int votesNeeded;
        final int[] parts = new int[MOST_PARTS];
        int partCount = 0;
        boolean isTripped = false;

        Trip(int votesNeeded) {
            this.votesNeeded = votesNeeded;
        }

        boolean addPart(int c) {
            if (partCount >= parts.length) {
                return false;
            }
            parts[partCount] = c;
            partCount++;
            return true;
        }

        int partAt(int place) {
            return place >= 0 && place < parts.length ? parts[place] : NONE;
        }
    }

    /** The latest numbers that were pushed, the latest at place 0. */
    private static final class Latest {
        final int[] entries;
        int size = 0;

        Latest(int room) {
            entries = new int[Math.max(room, 0)];
        }

        void push(int entry) {
            for (int place = entries.length - 1; place > 0; place--) {
                entries[place] = entries[place - 1];
            }
            if (entries.length > 0) {
                entries[0] = entry;
            }
            if (size < entries.length) {
                size++;
            }
        }

        int at(int place) {
            return place >= 0 && place < size && place < entries.length ? entries[place] : NONE;
        }

        void empty() {
            size = 0;
        }
    }
}
