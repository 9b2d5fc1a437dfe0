/** Promises 12 to 15: relations between gauges, and conditions. */
public final class ConditionTest {
    private static final int MISSING = -2, OUTSIDE = -4;
    private static final int[] NO_RELATIONS = {-1, 6, Integer.MIN_VALUE, Integer.MAX_VALUE};
    private static final int[] NO_CONDITIONS = {-1, 24, Integer.MIN_VALUE, Integer.MAX_VALUE};
    private static final int[] NO_GAUGES = {-1, 2, 15, 16, Integer.MIN_VALUE, Integer.MAX_VALUE};
    private static final int[] NO_NUMBERS = {1000000001, -1000000001, TripPanel.GAP, Integer.MIN_VALUE};
    // What relations 0 .. 5 answer for a left side that is less, the same, greater, or a GAP.
    private static final int[] WHEN_LESS = {1, 1, 0, 0, 0, 1};
    private static final int[] WHEN_SAME = {0, 1, 0, 1, 1, 0};
    private static final int[] WHEN_GREATER = {0, 0, 1, 1, 0, 1};
    private static final int[] WHEN_GAP = {0, 0, 0, 0, 0, 1};
    private static final Due due = new Due("ConditionTest");

    public static void main(String[] args) {
        for (boolean narrow : new boolean[] {false, true}) {
            for (boolean otherNarrow : new boolean[] {false, true}) {
                relations(narrow, otherNarrow);
            }
        }
        mixedRelations();
        standsRefused();
        between();
        betweenRefused();
        level();
        levelRefused();
        holds();
        due.end();
    }

    private static TripPanel withGauges(boolean narrow, boolean otherNarrow) {
        TripPanel panel = new TripPanel();
        panel.make(0, narrow);
        panel.make(1, otherNarrow);
        return panel;
    }

    private static void relations(boolean narrow, boolean otherNarrow) {
        TripPanel panel = withGauges(narrow, otherNarrow);
        all(panel, WHEN_GAP, 0, 1, "two GAPS");
        all(panel, WHEN_GAP, 0, 0, "a GAP and itself");
        panel.take(0, 500);
        all(panel, WHEN_GAP, 0, 1, "a value and a GAP");
        all(panel, WHEN_GAP, 1, 0, "a GAP and a value");
        all(panel, WHEN_SAME, 0, 0, "a value and itself");
        panel.take(1, 500);
        all(panel, WHEN_SAME, 0, 1, "the same");
        panel.take(1, 625);
        all(panel, WHEN_LESS, 0, 1, "less");
        all(panel, WHEN_GREATER, 1, 0, "greater");
        panel.take(1, -1000000000);
        all(panel, WHEN_GREATER, 0, 1, "greater than the least");
    }

    private static void mixedRelations() {
        TripPanel panel = withGauges(true, false);
        panel.take(0, 100);
        panel.take(1, 100);
        all(panel, WHEN_GREATER, 0, 1, "0.1f is greater than 0.1");
        panel.take(0, 700);
        panel.take(1, 700);
        all(panel, WHEN_LESS, 0, 1, "0.7f is less than 0.7");
        panel.take(0, 16777217);
        panel.take(1, 16777217);
        double f = 16777217 / 1000f;
        all(panel, f < 16777.217 ? WHEN_LESS : WHEN_GREATER, 0, 1, "16777217, narrow and wide");
        TripPanel narrow = withGauges(true, true);
        narrow.take(0, 16777217);
        narrow.take(1, 16777216);
        all(narrow, WHEN_SAME, 0, 1, "two numbers of one float");
    }

    /** Asks stands(), between(), and between() turned: all three must agree. */
    private static void all(TripPanel panel, int[] want, int a, int b, String what) {
        for (int relation = 0; relation < 6; relation++) {
            String text = what + ", relation " + relation;
            due.is(want[relation], panel.stands(a, relation, b), "promise 12: " + text);
            due.is(1, panel.between(4, relation, a, b, false), "promise 13: " + text);
            due.is(want[relation], panel.holds(4), "promise 15: " + text);
            due.is(1, panel.between(4, relation, a, b, true), "promise 13: turned " + text);
            due.is(1 - want[relation], panel.holds(4), "promise 15: turned " + text);
        }
    }

    private static void standsRefused() {
        TripPanel panel = withGauges(false, true);
        for (int relation : NO_RELATIONS) {
            due.is(OUTSIDE, panel.stands(0, relation, 1), "promise 12: relation " + relation);
            due.is(OUTSIDE, panel.stands(9, relation, 9), "promise 12: -4 before -2, relation " + relation);
        }
        for (int g : NO_GAUGES) {
            due.is(MISSING, panel.stands(g, 5, 1), "promise 12: a=" + g);
            due.is(MISSING, panel.stands(0, 5, g), "promise 12: b=" + g);
        }
    }

    private static void between() {
        TripPanel panel = withGauges(false, false);
        due.is(1, panel.between(0, 0, 0, 1, false), "promise 13: the first condition");
        due.is(1, panel.between(23, 2, 0, 1, false), "promise 13: the last condition");
        panel.take(0, 10);
        panel.take(1, 20);
        due.is(1, panel.holds(0), "promise 13: as things are now");
        due.is(0, panel.holds(23), "promise 13: each its own");
        panel.take(1, 5);
        due.is(0, panel.holds(0), "promise 13: as things are now, changed");
        due.is(1, panel.holds(23), "promise 13: as things are now, changed");
        due.is(1, panel.between(0, 5, 0, 0, false), "promise 13: anew, of a gauge and itself");
        due.is(0, panel.holds(0), "promise 13: it is not unlike itself");
        panel.gap(0);
        due.is(1, panel.holds(0), "promise 13: a GAP is unlike itself");
    }

    private static void betweenRefused() {
        TripPanel panel = withGauges(false, false);
        panel.between(3, 5, 0, 1, false);
        for (int c : NO_CONDITIONS) {
            due.is(OUTSIDE, panel.between(c, 0, 0, 1, false), "promise 13: c=" + c);
            due.is(OUTSIDE, panel.between(c, 0, 9, 9, false), "promise 13: -4 before -2, c=" + c);
        }
        for (int relation : NO_RELATIONS) {
            due.is(OUTSIDE, panel.between(3, relation, 0, 1, false), "promise 13: relation " + relation);
            due.is(OUTSIDE, panel.between(3, relation, 0, 9, true), "promise 13: -4 before -2, relation " + relation);
        }
        for (int g : NO_GAUGES) {
            due.is(MISSING, panel.between(3, 0, g, 1, false), "promise 13: a=" + g);
            due.is(MISSING, panel.between(3, 0, 0, g, false), "promise 13: b=" + g);
            due.is(MISSING, panel.between(5, 0, 0, g, false), "promise 13: a new one, b=" + g);
        }
        due.is(1, panel.holds(3), "promise 13: refused ones change nothing");
        due.is(MISSING, panel.holds(5), "promise 13: refused ones make nothing");
    }

    private static void level() {
        for (boolean narrow : new boolean[] {false, true}) {
            TripPanel panel = withGauges(narrow, !narrow);
            levels(panel, WHEN_GAP, 0, "a GAP");
            panel.take(0, 100);
            levels(panel, WHEN_SAME, 100, "the same number");
            levels(panel, WHEN_LESS, 101, "less");
            levels(panel, WHEN_GREATER, 99, "greater");
            levels(panel, WHEN_LESS, 1000000000, "less than the greatest");
            levels(panel, WHEN_GREATER, -1000000000, "greater than the least");
            panel.take(0, 16777217);
            levels(panel, narrow ? WHEN_SAME : WHEN_GREATER, 16777216, "the level's value is that for the gauge");
            due.is(1, panel.level(6, 4, 0, 16777217, false), "promise 14: a level");
            panel.take(1, 5);
            due.is(1, panel.between(6, 2, 0, 1, false), "promise 14: the level is a pair anew");
            due.is(1, panel.holds(6), "promise 14: no level is left");
        }
    }

    private static void levels(TripPanel panel, int[] want, int n, String what) {
        for (int relation = 0; relation < 6; relation++) {
            String text = what + ", relation " + relation;
            due.is(1, panel.level(23, relation, 0, n, false), "promise 14: " + text);
            due.is(want[relation], panel.holds(23), "promise 14: " + text);
            due.is(1, panel.level(23, relation, 0, n, true), "promise 14: turned " + text);
            due.is(1 - want[relation], panel.holds(23), "promise 14: turned " + text);
        }
    }

    private static void levelRefused() {
        TripPanel panel = withGauges(false, false);
        panel.level(0, 5, 0, 0, false);
        for (int c : NO_CONDITIONS) {
            due.is(OUTSIDE, panel.level(c, 0, 0, 0, false), "promise 14: c=" + c);
            due.is(OUTSIDE, panel.level(c, 0, 9, 0, false), "promise 14: -4 before -2, c=" + c);
        }
        for (int relation : NO_RELATIONS) {
            due.is(OUTSIDE, panel.level(0, relation, 0, 0, false), "promise 14: relation " + relation);
            due.is(OUTSIDE, panel.level(0, relation, 9, 0, false), "promise 14: -4 before -2, relation " + relation);
        }
        for (int n : NO_NUMBERS) {
            due.is(OUTSIDE, panel.level(0, 0, 0, n, false), "promise 14: n=" + n);
            due.is(OUTSIDE, panel.level(0, 0, 9, n, false), "promise 14: -4 before -2, n=" + n);
        }
        for (int g : NO_GAUGES) {
            due.is(MISSING, panel.level(0, 0, g, 0, false), "promise 14: a=" + g);
            due.is(MISSING, panel.level(1, 0, g, 0, false), "promise 14: a new one, a=" + g);
        }
        due.is(1, panel.holds(0), "promise 14: refused ones change nothing");
        due.is(MISSING, panel.holds(1), "promise 14: refused ones make nothing");
    }

    private static void holds() {
        TripPanel panel = withGauges(false, false);
        for (int c : NO_CONDITIONS) {
            due.is(MISSING, panel.holds(c), "promise 15: c=" + c);
        }
        panel.level(7, 2, 0, 100, false);
        for (int c = 0; c < 24; c++) {
            due.is(c == 7 ? 0 : MISSING, panel.holds(c), "promise 15: c=" + c);
        }
        panel.take(0, 101);
        due.is(1, panel.holds(7), "promise 15: it holds");
        panel.take(0, 100);
        due.is(0, panel.holds(7), "promise 15: it does not");
    }
}
