/** The boundary cases of promises 12 to 15, a method for each sentence; RefusedTest has what is refused. */
public final class ConditionEdgeTest {
    private static final int MISSING = -2, GREATEST = 1000000000;
    private static final Due due = new Due("ConditionEdgeTest");

    public static void main(String[] args) {
        standsAtTheEnds();
        standsToTheLeftAndTheRight();
        betweenAnew();
        betweenNeedsBothGauges();
        levelAnew();
        levelAtTheEnds();
        levelIsOfItsGauge();
        levelAndPairInTurn();
        holdsNow();
        conditionsApart();
        due.end();
    }

    private static TripPanel withGauges(boolean narrow, boolean otherNarrow) {
        TripPanel panel = new TripPanel();
        panel.make(0, narrow);
        panel.make(15, otherNarrow);
        return panel;
    }

    private static void standsAtTheEnds() {
        due.sentence("Promise 12: 1 if gauge a stands in a relation to gauge b, else 0");
        for (int kinds = 0; kinds < 4; kinds++) {
            TripPanel panel = withGauges((kinds & 1) != 0, (kinds & 2) != 0);
            panel.take(0, -GREATEST);
            panel.take(15, GREATEST);
            int[] less = {1, 1, 0, 0, 0, 1};
            for (int relation = 0; relation < 6; relation++) {
                due.is(less[relation], panel.stands(0, relation, 15), "the least to the greatest, relation " + relation);
            }
            panel.take(0, GREATEST);
            int[] same = {0, 1, 0, 1, 1, 0};
            for (int relation = 0; relation < 6; relation++) {
                due.is(same[relation], panel.stands(0, relation, 15), "the greatest to itself, relation " + relation);
            }
        }
    }

    private static void standsToTheLeftAndTheRight() {
        due.sentence("Promise 12: gauge a to gauge b");
        TripPanel panel = withGauges(false, true);
        panel.take(0, 1);
        panel.take(15, 2);
        due.is(1, panel.stands(0, 0, 15), "1 is less than 2");
        due.is(0, panel.stands(15, 0, 0), "2 is not less than 1");
        due.is(1, panel.stands(15, 2, 0), "2 is greater than 1");
        due.is(0, panel.stands(0, 2, 15), "1 is not greater than 2");
    }

    private static void betweenAnew() {
        due.sentence("Promise 13: Condition c is (anew) one between gauges a and b");
        TripPanel panel = withGauges(false, false);
        panel.take(0, 1);
        panel.take(15, 2);
        due.is(1, panel.between(23, 0, 0, 15, false), "less");
        due.is(1, panel.holds(23), "less");
        due.is(1, panel.between(23, 0, 15, 0, false), "the other way");
        due.is(0, panel.holds(23), "the other way");
        due.is(1, panel.between(23, 2, 15, 0, false), "another relation");
        due.is(1, panel.holds(23), "another relation");
        due.is(1, panel.between(23, 2, 15, 0, true), "turned");
        due.is(0, panel.holds(23), "turned");
        due.is(1, panel.between(23, 2, 15, 0, false), "turned back");
        due.is(1, panel.holds(23), "turned back");
    }

    private static void betweenNeedsBothGauges() {
        due.sentence("Promise 13: -2, until the gauge is made");
        TripPanel panel = new TripPanel();
        due.is(MISSING, panel.between(0, 5, 0, 1, false), "none of two");
        panel.make(0, false);
        due.is(MISSING, panel.between(0, 5, 0, 1, false), "one of two");
        due.is(MISSING, panel.between(0, 5, 1, 0, false), "one of two");
        due.is(MISSING, panel.holds(0), "no condition yet");
        panel.make(1, false);
        due.is(1, panel.between(0, 5, 0, 1, false), "both");
        due.is(1, panel.holds(0), "a condition");
    }

    private static void levelAnew() {
        due.sentence("Promise 14: Condition c is (anew) one between gauge a and the LEVEL n");
        TripPanel panel = withGauges(false, true);
        panel.take(0, 5);
        panel.take(15, 7);
        due.is(1, panel.level(0, 4, 0, 5, false), "at 5");
        due.is(1, panel.holds(0), "at 5");
        due.is(1, panel.level(0, 4, 0, 6, false), "another LEVEL");
        due.is(0, panel.holds(0), "another LEVEL");
        due.is(1, panel.level(0, 2, 15, 6, false), "another gauge");
        due.is(1, panel.holds(0), "another gauge");
        due.is(1, panel.level(0, 2, 15, 6, true), "turned");
        due.is(0, panel.holds(0), "turned");
    }

    private static void levelAtTheEnds() {
        due.sentence("Promise 14: the LEVEL n, from the least to the greatest number");
        for (boolean narrow : new boolean[] {false, true}) {
            TripPanel panel = withGauges(narrow, narrow);
            for (int n : new int[] {-GREATEST, GREATEST, 0, -1}) {
                panel.take(0, n);
                due.is(1, panel.level(1, 4, 0, n, false), "level " + n);
                due.is(1, panel.holds(1), "the same as " + n);
                due.is(1, panel.level(1, 5, 0, n, false), "level " + n);
                due.is(0, panel.holds(1), "unlike " + n);
            }
        }
    }

    private static void levelIsOfItsGauge() {
        due.sentence("a LEVEL: the value that a number has for that gauge");
        TripPanel panel = withGauges(false, true);
        panel.take(0, 100);
        panel.take(15, 100);
        panel.level(0, 4, 0, 100, false);
        panel.level(1, 4, 15, 100, false);
        due.is(1, panel.holds(0), "0.1 as a double, for the wide gauge");
        due.is(1, panel.holds(1), "0.1 as a float, for the narrow gauge");
        panel.take(0, 999999968);
        panel.take(15, 999999968);
        panel.level(0, 4, 0, GREATEST, false);
        panel.level(1, 4, 15, GREATEST, false);
        due.is(0, panel.holds(0), "two doubles");
        due.is(1, panel.holds(1), "one float");
    }

    private static void levelAndPairInTurn() {
        due.sentence("Promises 13, 14: a LEVEL becomes a pair anew, and a pair a LEVEL");
        TripPanel panel = withGauges(false, false);
        panel.take(0, 5);
        panel.level(3, 4, 0, 5, false);
        panel.between(3, 4, 0, 15, false);
        due.is(0, panel.holds(3), "the pair has a GAP on the right");
        panel.take(15, 5);
        due.is(1, panel.holds(3), "the pair is the same");
        panel.level(3, 4, 0, 6, false);
        due.is(0, panel.holds(3), "the LEVEL is not");
        panel.gap(15);
        panel.take(0, 6);
        due.is(1, panel.holds(3), "the LEVEL does not ask for the other gauge");
    }

    private static void holdsNow() {
        due.sentence("Promise 15: 1 if the condition HOLDS, else 0");
        TripPanel panel = withGauges(false, false);
        panel.level(0, 3, 0, 10, false);
        due.is(0, panel.holds(0), "a GAP");
        panel.take(0, 10);
        due.is(1, panel.holds(0), "at the LEVEL");
        panel.take(0, 9);
        due.is(0, panel.holds(0), "below it");
        panel.take(0, 11);
        due.is(1, panel.holds(0), "above it");
        panel.limit(0, true, 10);
        due.is(1, panel.holds(0), "a limit leaves what the gauge has");
        panel.take(0, 11);
        due.is(0, panel.holds(0), "CUT: a GAP");
        due.is(0, panel.about(1), "all without a scan");
    }

    private static void conditionsApart() {
        due.sentence("Promise 15: -2 for each that is not defined");
        for (int defined = 0; defined < 24; defined++) {
            TripPanel panel = withGauges(false, false);
            panel.between(defined, 5, 0, 0, false);
            for (int c = 0; c < 24; c++) {
                due.is(c == defined ? 1 : MISSING, panel.holds(c), "holds(" + c + ") with " + defined);
            }
        }
    }
}
