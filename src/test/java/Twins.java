import java.util.ArrayList;
import java.util.List;

/**
 * "REFUSED, with nothing changed": of two panels with the same calls behind them one gets the refused call too, and
 * no later answer may tell them apart. Each panel stays under the 512 calls that an object is used for.
 */
final class Twins {
    interface Call {
        int on(TripPanel panel);
    }

    /** The gauges, conditions and trips that busy() has, and some that it has not. */
    static final int[] MADE = {0, 1, 2, 3, 14, 15};
    static final int[] NOT_MADE = {-1, 4, 13, 16, 17, Integer.MIN_VALUE, Integer.MAX_VALUE};
    static final int[] DEFINED = {0, 1, 2, 3, 4, 5, 6, 23};
    static final int[] NOT_DEFINED = {-1, 7, 22, 24, 25, Integer.MIN_VALUE, Integer.MAX_VALUE};
    static final int[] SET_UP = {0, 1, 2, 3, 7};
    static final int[] NOT_SET_UP = {-1, 4, 6, 8, 9, Integer.MIN_VALUE, Integer.MAX_VALUE};
    static final int FULL_TRIP = 0, TRIPPED_AND_DUE = 1, TRIPPED_NOT_DUE = 2, DUE_NOT_TRIPPED = 3, EMPTY_TRIP = 7;

    private static final int[] LEVELS = {50001, 50000, 49900, 49899, -50000, -50001, 40001, 40000, 1001, 1000, 800, 799, -1000, -1001, 0};
    private static final int[] ROW_LEVELS = {-1000000000, 8000, 11000, 14000, 16777216};

    private final Due due;

    Twins(Due due) {
        this.due = due;
    }

    /** The call answers so, and what it leaves is what was there: on a panel with all kinds of things, asked and used. */
    void unchanged(int want, Call call, String what) {
        compare(readAll(answering(want, call, what)), readAll(busy()), what);
        compare(useAll(answering(want, call, what)), useAll(busy()), what);
    }

    /** The same on a new object. */
    void unchangedWhenNew(int want, Call call, String what) {
        TripPanel reading = new TripPanel();
        TripPanel used = new TripPanel();
        due.is(want, call.on(reading), what + " of a new object");
        due.is(want, call.on(used), what + " of a new object");
        compare(readAll(reading), readAll(new TripPanel()), what + " of a new object");
        compare(useAll(used), useAll(new TripPanel()), what + " of a new object");
    }

    private TripPanel answering(int want, Call call, String what) {
        TripPanel panel = busy();
        due.is(want, call.on(panel), what);
        return panel;
    }

    private void compare(List<Integer> touched, List<Integer> untouched, String what) {
        for (int i = 0; i < untouched.size(); i++) {
            due.is(untouched.get(i), touched.get(i), what + ": then answer " + i);
        }
    }

    /** Some 130 calls: rows that are full, 27 EVENTS, and each kind of trip. */
    static TripPanel busy() {
        TripPanel panel = new TripPanel();
        gauges(panel);
        conditions(panel);
        events(panel);
        trips(panel);
        return panel;
    }

    private static void gauges(TripPanel panel) {
        for (int g : MADE) {
            panel.make(g, g % 2 == 1);
        }
        panel.limit(0, true, 50000);
        panel.limit(0, false, -50000);
        panel.limit(1, true, 40000);
        panel.limit(3, false, -1000);
        panel.limit(15, true, 1000);
        panel.band(0, 100);
        panel.band(1, 200);
        panel.band(3, 1000000);
        panel.band(14, 50);
        panel.scan();
        for (int step = 1; step <= 14; step++) {
            panel.take(0, step * 1000);
            panel.take(1, step * 1000 + 500);
        }
        panel.gap(0);
        panel.take(0, 51000);
        panel.take(0, 14000);
        panel.take(2, 16777216);
        panel.gap(2);
        panel.take(14, 16777217);
        panel.take(15, 1000);
        panel.take(15, 1001);
        panel.take(15, 100);
    }

    private static void conditions(TripPanel panel) {
        panel.between(0, 0, 0, 1, false);
        panel.between(1, 5, 2, 2, true);
        panel.level(2, 3, 0, 40000, false);
        panel.level(3, 4, 1, 800, false);
        panel.between(4, 5, 3, 3, false);
        panel.level(5, 2, 15, 0, false);
        panel.between(6, 1, 14, 15, true);
        panel.level(23, 2, 3, 0, true);
    }

    private static void events(TripPanel panel) {
        for (int round = 0; round < 5; round++) {
            for (int t : SET_UP) {
                panel.trip(t, 1);
                panel.part(t, round % 2 == 0 ? 4 : 6);
            }
            panel.scan();
        }
    }

    private static void trips(TripPanel panel) {
        panel.trip(FULL_TRIP, 6);
        for (int c : new int[] {0, 1, 0, 2, 3, 23}) {
            panel.part(FULL_TRIP, c);
        }
        panel.trip(TRIPPED_AND_DUE, 1);
        panel.part(TRIPPED_AND_DUE, 4);
        panel.trip(TRIPPED_NOT_DUE, 2);
        panel.part(TRIPPED_NOT_DUE, 5);
        panel.part(TRIPPED_NOT_DUE, 5);
        panel.trip(EMPTY_TRIP, 2);
        panel.scan();
        panel.take(15, -100);
        panel.trip(DUE_NOT_TRIPPED, 1);
        panel.part(DUE_NOT_TRIPPED, 1);
        panel.part(DUE_NOT_TRIPPED, 4);
    }

    /** Every answer that a panel gives without being changed: some 260 calls. */
    private static List<Integer> readAll(TripPanel panel) {
        List<Integer> answers = new ArrayList<>();
        for (int what = 0; what <= 6; what++) {
            answers.add(panel.about(what));
        }
        for (int g = 0; g < 16; g++) {
            answers.add(panel.shown(g));
            answers.add(panel.mark(g, true));
            answers.add(panel.mark(g, false));
            answers.add(panel.stale(g));
            answers.add(panel.order(g));
        }
        answers.add(panel.extreme(true));
        answers.add(panel.extreme(false));
        readConditionsAndTrips(panel, answers);
        readEvents(panel, answers);
        for (int g : MADE) {
            readRow(panel, g, answers);
        }
        return answers;
    }

    private static void readConditionsAndTrips(TripPanel panel, List<Integer> answers) {
        for (int c = 0; c < 24; c++) {
            answers.add(panel.holds(c));
        }
        for (int t = 0; t < 8; t++) {
            answers.add(panel.votes(t));
            answers.add(panel.tripped(t));
        }
    }

    private static void readEvents(TripPanel panel, List<Integer> answers) {
        for (int k = 0; k < 21; k++) {
            for (int what = 0; what < 3; what++) {
                answers.add(panel.event(k, what));
            }
        }
    }

    private static void readRow(TripPanel panel, int g, List<Integer> answers) {
        answers.add(panel.counted(g, 5, 1000000000));
        for (int n : ROW_LEVELS) {
            answers.add(panel.counted(g, 3, n));
            answers.add(panel.since(g, 1, n));
        }
    }

    /** What only later calls can tell: limits, bands, conditions, the trips' parts and VOTES; some 220 calls. */
    private static List<Integer> useAll(TripPanel panel) {
        List<Integer> answers = new ArrayList<>();
        for (int n : LEVELS) {
            for (int g : MADE) {
                answers.add(panel.take(g, n));
            }
            if (n % 400 == 0) {
                for (int c : DEFINED) {
                    answers.add(panel.holds(c));
                }
            }
        }
        for (int t = 0; t < 8; t++) {
            answers.add(panel.reset(t));
            answers.add(panel.part(t, 5));
            answers.add(panel.votes(t));
        }
        answers.add(panel.scan());
        for (int t = 0; t < 8; t++) {
            answers.add(panel.tripped(t));
        }
        for (int g = 0; g < 16; g++) {
            answers.add(panel.open(g, true));
            answers.add(panel.open(g, false));
            answers.add(panel.make(g, true));
        }
        for (int what = 0; what <= 6; what++) {
            answers.add(panel.about(what));
        }
        return answers;
    }
}
