/**
 * "REFUSED, with nothing changed: -4 a number is outside; -2 no such gauge, condition or trip; the first of these where
 * it isn't told otherwise": each refusal of each promise, with the whole of what it must leave unchanged. So, too, are
 * the answers 0 and NONE that tell that nothing was to be done, and -5.
 */
public final class RefusedTest {
    private static final int OUTSIDE = -4, MISSING = -2, STILL_DUE = -5, GAP = TripPanel.GAP, NONE = TripPanel.NONE;
    private static final int[] NO_GAUGE_NUMBERS = {-1, 16, Integer.MIN_VALUE, Integer.MAX_VALUE};
    private static final int[] NO_CONDITION_NUMBERS = {-1, 24, Integer.MIN_VALUE, Integer.MAX_VALUE};
    private static final int[] NO_TRIP_NUMBERS = {-1, 8, Integer.MIN_VALUE, Integer.MAX_VALUE};
    private static final int[] NO_NUMBERS = {-1000000001, 1000000001, GAP, -GAP, Integer.MIN_VALUE, Integer.MAX_VALUE};
    private static final int[] NO_BANDS = {-1, 1000001, GAP, Integer.MIN_VALUE, Integer.MAX_VALUE};
    private static final int[] NO_RELATIONS = {-1, 6, Integer.MIN_VALUE, Integer.MAX_VALUE};
    private static final int[] NO_VOTES = {0, 7, -1, Integer.MIN_VALUE, Integer.MAX_VALUE};
    private static final boolean[] BOTH = {false, true};
    private static final Due due = new Due("RefusedTest");
    private static final Twins twins = new Twins(due);

    public static void main(String[] args) {
        theBusyPanelIsWhatItSays();
        make();
        limitAndTake();
        open();
        band();
        missingGauge();
        stands();
        between();
        betweenWithoutGauges();
        level();
        holds();
        trip();
        part();
        reset();
        missingTrip();
        rows();
        asking();
        due.end();
    }

    /** Else the tests here would refuse for other reasons than they say. */
    private static void theBusyPanelIsWhatItSays() {
        due.sentence("what the refused calls meet");
        TripPanel panel = Twins.busy();
        due.is(27, panel.about(6), "EVENTS, more than are kept");
        due.is(2, panel.about(5), "TRIPPED");
        due.is(1, panel.votes(Twins.TRIPPED_AND_DUE), "NOW of one vote");
        due.is(1, panel.tripped(Twins.TRIPPED_AND_DUE), "TRIPPED, due");
        due.is(0, panel.votes(Twins.TRIPPED_NOT_DUE), "NOW of two votes");
        due.is(1, panel.tripped(Twins.TRIPPED_NOT_DUE), "TRIPPED, not due");
        due.is(1, panel.votes(Twins.DUE_NOT_TRIPPED), "NOW of one vote");
        due.is(0, panel.tripped(Twins.DUE_NOT_TRIPPED), "due, not TRIPPED");
        due.is(12, panel.counted(0, 5, 0), "a full ROW");
        due.is(GAP, panel.shown(2), "a GAP behind a value");
        due.is(GAP, panel.mark(3, true), "a gauge that never had a value");
    }

    private static void refused(int want, Twins.Call call, String what) {
        twins.unchanged(want, call, what);
    }

    private static void refusedAlways(int want, Twins.Call call, String what) {
        twins.unchanged(want, call, what);
        twins.unchangedWhenNew(want, call, what);
    }

    private static void make() {
        due.sentence("Promise 2: 0 if it is there (it stays as it is); -4");
        for (boolean narrow : BOTH) {
            for (int g : NO_GAUGE_NUMBERS) {
                refusedAlways(OUTSIDE, p -> p.make(g, narrow), "make(" + g + ", " + narrow + ")");
            }
            for (int g : Twins.MADE) {
                refused(0, p -> p.make(g, narrow), "make(" + g + ", " + narrow + ")");
            }
        }
    }

    private static void limitAndTake() {
        due.sentence("Promises 3, 6: -4 (n); -2");
        for (int n : NO_NUMBERS) {
            for (int g : new int[] {0, 3, 4, 16, -1}) {
                refusedAlways(OUTSIDE, p -> p.limit(g, true, n), "limit(" + g + ", true, " + n + ")");
                refusedAlways(OUTSIDE, p -> p.limit(g, false, n), "limit(" + g + ", false, " + n + ")");
                refusedAlways(OUTSIDE, p -> p.take(g, n), "take(" + g + ", " + n + ")");
            }
        }
        for (int g : Twins.NOT_MADE) {
            for (int n : new int[] {0, -1000000000, 1000000000}) {
                refusedAlways(MISSING, p -> p.limit(g, true, n), "limit(" + g + ", true, " + n + ")");
                refusedAlways(MISSING, p -> p.limit(g, false, n), "limit(" + g + ", false, " + n + ")");
                refusedAlways(MISSING, p -> p.take(g, n), "take(" + g + ", " + n + ")");
            }
        }
    }

    private static void open() {
        due.sentence("Promise 4: or 0 if there was none; -2");
        refused(0, p -> p.open(1, false), "open(1, false)");
        refused(0, p -> p.open(2, true), "open(2, true)");
        refused(0, p -> p.open(2, false), "open(2, false)");
        refused(0, p -> p.open(3, true), "open(3, true)");
        for (int g : Twins.NOT_MADE) {
            refusedAlways(MISSING, p -> p.open(g, true), "open(" + g + ", true)");
            refusedAlways(MISSING, p -> p.open(g, false), "open(" + g + ", false)");
        }
    }

    private static void band() {
        due.sentence("Promise 5: -4 (n); -2");
        for (int n : NO_BANDS) {
            for (int g : new int[] {0, 3, 4, 16, -1}) {
                refusedAlways(OUTSIDE, p -> p.band(g, n), "band(" + g + ", " + n + ")");
            }
        }
        for (int g : Twins.NOT_MADE) {
            refusedAlways(MISSING, p -> p.band(g, 0), "band(" + g + ", 0)");
            refusedAlways(MISSING, p -> p.band(g, 1000000), "band(" + g + ", 1000000)");
        }
    }

    private static void missingGauge() {
        due.sentence("Promises 7, 8, 11: -2; promises 9, 10: GAP (also of no gauge)");
        for (int g : Twins.NOT_MADE) {
            refusedAlways(MISSING, p -> p.gap(g), "gap(" + g + ")");
            refusedAlways(MISSING, p -> p.clear(g), "clear(" + g + ")");
            refusedAlways(MISSING, p -> p.stale(g), "stale(" + g + ")");
            refusedAlways(GAP, p -> p.shown(g), "shown(" + g + ")");
            refusedAlways(GAP, p -> p.mark(g, true), "mark(" + g + ", true)");
            refusedAlways(GAP, p -> p.mark(g, false), "mark(" + g + ", false)");
        }
    }

    private static void stands() {
        due.sentence("Promise 12: -4 (no relation); -2");
        for (int relation : NO_RELATIONS) {
            refused(OUTSIDE, p -> p.stands(0, relation, 1), "stands(0, " + relation + ", 1)");
            refusedAlways(OUTSIDE, p -> p.stands(4, relation, 0), "stands(4, " + relation + ", 0)");
            refusedAlways(OUTSIDE, p -> p.stands(0, relation, 16), "stands(0, " + relation + ", 16)");
        }
        for (int g : Twins.NOT_MADE) {
            refusedAlways(MISSING, p -> p.stands(g, 0, 0), "stands(" + g + ", 0, 0)");
            refusedAlways(MISSING, p -> p.stands(0, 5, g), "stands(0, 5, " + g + ")");
            refusedAlways(MISSING, p -> p.stands(g, 5, g), "stands(" + g + ", 5, " + g + ")");
        }
    }

    private static void between() {
        due.sentence("Promise 13: -4 (c, the relation)");
        for (int c : NO_CONDITION_NUMBERS) {
            refused(OUTSIDE, p -> p.between(c, 5, 0, 1, false), "between(" + c + ", 5, 0, 1, false)");
            refusedAlways(OUTSIDE, p -> p.between(c, 5, 4, 4, true), "between(" + c + ", 5, 4, 4, true)");
        }
        for (int relation : NO_RELATIONS) {
            for (int c : new int[] {0, 7, 23}) {
                refused(OUTSIDE, p -> p.between(c, relation, 0, 1, true), "between(" + c + ", " + relation + ", 0, 1, true)");
                refusedAlways(OUTSIDE, p -> p.between(c, relation, 16, -1, true), "between(" + c + ", " + relation + ", 16, -1, true)");
            }
        }
    }

    private static void betweenWithoutGauges() {
        due.sentence("Promise 13: -2");
        for (int g : Twins.NOT_MADE) {
            for (int c : new int[] {0, 7, 23}) {
                refusedAlways(MISSING, p -> p.between(c, 5, g, 0, true), "between(" + c + ", 5, " + g + ", 0, true)");
                refusedAlways(MISSING, p -> p.between(c, 4, 1, g, true), "between(" + c + ", 4, 1, " + g + ", true)");
                refusedAlways(MISSING, p -> p.between(c, 4, g, g, false), "between(" + c + ", 4, " + g + ", " + g + ", false)");
            }
        }
    }

    private static void level() {
        due.sentence("Promise 14: -4 (c, the relation, n); -2");
        for (int a : new int[] {0, 4, 16}) {
            for (int c : NO_CONDITION_NUMBERS) {
                refusedAlways(OUTSIDE, p -> p.level(c, 5, a, 0, false), "level(" + c + ", 5, " + a + ", 0, false)");
            }
            for (int relation : NO_RELATIONS) {
                refusedAlways(OUTSIDE, p -> p.level(2, relation, a, 0, true), "level(2, " + relation + ", " + a + ", 0, true)");
            }
            for (int n : NO_NUMBERS) {
                refusedAlways(OUTSIDE, p -> p.level(2, 5, a, n, true), "level(2, 5, " + a + ", " + n + ", true)");
                refusedAlways(OUTSIDE, p -> p.level(7, 5, a, n, true), "level(7, 5, " + a + ", " + n + ", true)");
            }
        }
        for (int a : Twins.NOT_MADE) {
            refusedAlways(MISSING, p -> p.level(2, 5, a, 0, true), "level(2, 5, " + a + ", 0, true)");
            refusedAlways(MISSING, p -> p.level(7, 5, a, 0, true), "level(7, 5, " + a + ", 0, true)");
        }
    }

    private static void holds() {
        due.sentence("Promise 15: -2");
        for (int c : Twins.NOT_DEFINED) {
            refusedAlways(MISSING, p -> p.holds(c), "holds(" + c + ")");
        }
    }

    private static void trip() {
        due.sentence("Promise 16: -4");
        for (int t : NO_TRIP_NUMBERS) {
            refusedAlways(OUTSIDE, p -> p.trip(t, 1), "trip(" + t + ", 1)");
            refusedAlways(OUTSIDE, p -> p.trip(t, 7), "trip(" + t + ", 7)");
        }
        for (int votes : NO_VOTES) {
            for (int t = 0; t < 8; t++) {
                int which = t;
                refusedAlways(OUTSIDE, p -> p.trip(which, votes), "trip(" + t + ", " + votes + ")");
            }
        }
    }

    private static void part() {
        due.sentence("Promise 17: -2; NONE when it has six");
        for (int t : Twins.NOT_SET_UP) {
            refusedAlways(MISSING, p -> p.part(t, 0), "part(" + t + ", 0)");
            refusedAlways(MISSING, p -> p.part(t, 24), "part(" + t + ", 24)");
        }
        for (int c : Twins.NOT_DEFINED) {
            for (int t : Twins.SET_UP) {
                refusedAlways(MISSING, p -> p.part(t, c), "part(" + t + ", " + c + ")");
            }
        }
        for (int c : Twins.DEFINED) {
            refused(NONE, p -> p.part(Twins.FULL_TRIP, c), "part of a full trip, c=" + c);
        }
    }

    private static void reset() {
        due.sentence("Promise 19: -2; else -5 while NOW is not below its VOTES (TRIPPED or not); else 0 if it was not TRIPPED");
        for (int t : Twins.NOT_SET_UP) {
            refusedAlways(MISSING, p -> p.reset(t), "reset(" + t + ")");
        }
        refused(STILL_DUE, p -> p.reset(Twins.TRIPPED_AND_DUE), "reset of a trip that is TRIPPED and due");
        refused(STILL_DUE, p -> p.reset(Twins.DUE_NOT_TRIPPED), "reset of a trip that is due and not TRIPPED");
        refused(0, p -> p.reset(Twins.FULL_TRIP), "reset of a trip that is not TRIPPED");
        refused(0, p -> p.reset(Twins.EMPTY_TRIP), "reset of a trip without conditions");
    }

    private static void missingTrip() {
        due.sentence("Promises 20, 21: -2");
        for (int t : Twins.NOT_SET_UP) {
            refusedAlways(MISSING, p -> p.votes(t), "votes(" + t + ")");
            refusedAlways(MISSING, p -> p.tripped(t), "tripped(" + t + ")");
        }
    }

    private static void rows() {
        due.sentence("Promises 24, 25: -4 (the relation, n); -2");
        for (int g : new int[] {0, 4, 16, -1}) {
            for (int relation : NO_RELATIONS) {
                refusedAlways(OUTSIDE, p -> p.since(g, relation, 0), "since(" + g + ", " + relation + ", 0)");
                refusedAlways(OUTSIDE, p -> p.counted(g, relation, 0), "counted(" + g + ", " + relation + ", 0)");
            }
            for (int n : NO_NUMBERS) {
                refusedAlways(OUTSIDE, p -> p.since(g, 5, n), "since(" + g + ", 5, " + n + ")");
                refusedAlways(OUTSIDE, p -> p.counted(g, 5, n), "counted(" + g + ", 5, " + n + ")");
            }
        }
        for (int g : Twins.NOT_MADE) {
            refusedAlways(MISSING, p -> p.since(g, 5, 0), "since(" + g + ", 5, 0)");
            refusedAlways(MISSING, p -> p.counted(g, 5, 0), "counted(" + g + ", 5, 0)");
        }
    }

    private static void asking() {
        due.sentence("Promises 22, 23, 26, 27: NONE");
        for (int k : new int[] {-1, 16, 20, Integer.MIN_VALUE, Integer.MAX_VALUE}) {
            refusedAlways(NONE, p -> p.order(k), "order(" + k + ")");
            refusedAlways(NONE, p -> p.event(k == 16 ? 21 : k, 0), "event of k=" + k);
            refusedAlways(NONE, p -> p.event(0, k), "event of what=" + k);
            refusedAlways(NONE, p -> p.about(k), "about(" + k + ")");
        }
        refused(NONE, p -> p.order(6), "order(6) of six gauges");
        twins.unchangedWhenNew(NONE, p -> p.extreme(true), "extreme(true)");
        twins.unchangedWhenNew(NONE, p -> p.extreme(false), "extreme(false)");
    }
}
