/** Promises 22 to 25: the order of the gauges, and their rows. */
public final class OrderTest {
    private static final int MISSING = -2, OUTSIDE = -4;
    private static final Due due = new Due("OrderTest");

    public static void main(String[] args) {
        orderOfNone();
        order();
        orderOfMixed();
        extreme();
        extremeOfMixed();
        sinceAndCounted();
        rowOfTwelve();
        rowIsOfValues();
        rowRefused();
        due.end();
    }

    private static void order(TripPanel panel, int... want) {
        for (int k = 0; k < want.length; k++) {
            due.is(want[k], panel.order(k), "promise 22: place " + k);
        }
        for (int k : new int[] {-1, want.length, 15, 16, Integer.MIN_VALUE, Integer.MAX_VALUE}) {
            if (k < 0 || k >= want.length) {
                due.is(TripPanel.NONE, panel.order(k), "promise 22: no place " + k);
            }
        }
    }

    private static void orderOfNone() {
        TripPanel panel = new TripPanel();
        order(panel);
        due.is(TripPanel.NONE, panel.extreme(true), "promise 23: no gauges");
        panel.make(9, false);
        panel.make(4, true);
        order(panel, 4, 9);
        due.is(TripPanel.NONE, panel.extreme(true), "promise 23: GAPS alone");
        due.is(TripPanel.NONE, panel.extreme(false), "promise 23: GAPS alone");
    }

    private static void order() {
        TripPanel panel = new TripPanel();
        for (int g = 0; g < 16; g++) {
            panel.make(g, false);
        }
        order(panel, 0, 1, 2, 3, 4, 5, 6, 7, 8, 9, 10, 11, 12, 13, 14, 15);
        panel.take(15, -5);
        panel.take(7, 0);
        panel.take(3, -5);
        panel.take(11, 900);
        panel.take(0, -1000000000);
        order(panel, 11, 7, 3, 15, 0, 1, 2, 4, 5, 6, 8, 9, 10, 12, 13, 14);
        panel.gap(7);
        order(panel, 11, 3, 15, 0, 1, 2, 4, 5, 6, 7, 8, 9, 10, 12, 13, 14);
    }

    private static void orderOfMixed() {
        TripPanel panel = new TripPanel();
        panel.make(0, false);
        panel.make(1, true);
        panel.make(2, false);
        for (int g = 0; g < 3; g++) {
            panel.take(g, 100);
        }
        order(panel, 1, 0, 2);
        panel.take(0, 700);
        panel.take(1, 700);
        panel.take(2, 700);
        order(panel, 0, 2, 1);
        panel.take(0, 500);
        panel.take(1, 500);
        panel.take(2, 500);
        order(panel, 0, 1, 2);
    }

    private static void extreme() {
        TripPanel panel = new TripPanel();
        for (int g = 2; g < 8; g++) {
            panel.make(g, false);
        }
        panel.take(5, 0);
        due.is(5, panel.extreme(true), "promise 23: the only one");
        due.is(5, panel.extreme(false), "promise 23: the only one");
        panel.take(6, 30);
        panel.take(3, -30);
        due.is(6, panel.extreme(true), "promise 23: the greatest");
        due.is(3, panel.extreme(false), "promise 23: the least");
        panel.take(7, 30);
        panel.take(4, -30);
        due.is(6, panel.extreme(true), "promise 23: of the same the least number");
        due.is(3, panel.extreme(false), "promise 23: of the same the least number");
        panel.gap(6);
        panel.gap(3);
        due.is(7, panel.extreme(true), "promise 23: GAPS do not count");
        due.is(4, panel.extreme(false), "promise 23: GAPS do not count");
    }

    private static void extremeOfMixed() {
        TripPanel panel = new TripPanel();
        panel.make(0, false);
        panel.make(1, true);
        panel.take(0, 100);
        panel.take(1, 100);
        due.is(1, panel.extreme(true), "promise 23: 0.1f is greater than 0.1");
        due.is(0, panel.extreme(false), "promise 23: 0.1 is less than 0.1f");
        panel.take(0, 700);
        panel.take(1, 700);
        due.is(0, panel.extreme(true), "promise 23: 0.7 is greater than 0.7f");
        due.is(1, panel.extreme(false), "promise 23: 0.7f is less than 0.7");
    }

    private static void row(TripPanel panel, int g, int n, int[] since, int[] counted) {
        for (int relation = 0; relation < 6; relation++) {
            String text = "g=" + g + " relation=" + relation + " n=" + n;
            due.is(since[relation], panel.since(g, relation, n), "promise 24: since " + text);
            due.is(counted[relation], panel.counted(g, relation, n), "promise 25: counted " + text);
        }
    }

    private static void sinceAndCounted() {
        TripPanel panel = new TripPanel();
        panel.make(1, false);
        row(panel, 1, 0, new int[6], new int[6]);
        panel.band(1, 10);
        panel.limit(1, true, 1000);
        panel.take(1, 100);
        panel.take(1, 200);
        panel.take(1, 205);
        panel.take(1, 1001);
        panel.gap(1);
        panel.take(1, 150);
        // The latest first: 150, GAP, GAP, 200 (STEADY), 200, 100.
        row(panel, 1, 150, new int[] {5, 0, 3, 0, 0, 1}, new int[] {1, 2, 2, 3, 1, 5});
        row(panel, 1, 205, new int[] {0, 0, 6, 6, 6, 0}, new int[] {4, 4, 0, 0, 0, 6});
        row(panel, 1, 200, new int[] {0, 0, 6, 3, 3, 0}, new int[] {2, 4, 0, 2, 2, 4});
        panel.gap(1);
        row(panel, 1, 150, new int[] {6, 1, 4, 1, 1, 0}, new int[] {1, 2, 2, 3, 1, 6});
    }

    private static void rowOfTwelve() {
        TripPanel panel = new TripPanel();
        panel.make(0, true);
        for (int taken = 1; taken <= 30; taken++) {
            panel.take(0, taken * 1000);
            int kept = taken < 12 ? taken : 12;
            due.is(kept, panel.counted(0, 3, -1000000000), "promise 25: of the latest 12, taken " + taken);
            due.is(kept, panel.since(0, 2, 1000000000), "promise 24: up to the end, taken " + taken);
            due.is(kept - 1, panel.since(0, 1, (taken - kept + 1) * 1000), "promise 24: the earliest, taken " + taken);
            due.is(0, panel.counted(0, 1, (taken - 12) * 1000), "promise 25: the thirteenth is gone, taken " + taken);
        }
        panel.clear(0);
        due.is(0, panel.counted(0, 5, 0), "promise 25: behind clear()");
        panel.gap(0);
        due.is(1, panel.counted(0, 5, 0), "promise 25: one behind clear()");
        due.is(1, panel.since(0, 4, 30000), "promise 24: one behind clear()");
    }

    private static void rowIsOfValues() {
        TripPanel panel = new TripPanel();
        panel.make(0, true);
        panel.make(1, false);
        panel.take(0, 16777217);
        panel.take(1, 16777217);
        due.is(1, panel.counted(0, 4, 16777216), "promise 25: narrow, one float");
        due.is(0, panel.since(0, 4, 16777216), "promise 24: narrow, one float");
        due.is(0, panel.counted(1, 4, 16777216), "promise 25: wide, two doubles");
        due.is(1, panel.since(1, 4, 16777216), "promise 24: wide, two doubles");
    }

    private static void rowRefused() {
        TripPanel panel = new TripPanel();
        panel.make(0, true);
        for (int relation : new int[] {-1, 6, Integer.MIN_VALUE, Integer.MAX_VALUE}) {
            due.is(OUTSIDE, panel.since(0, relation, 0), "promise 24: relation " + relation);
            due.is(OUTSIDE, panel.counted(0, relation, 0), "promise 25: relation " + relation);
            due.is(OUTSIDE, panel.since(5, relation, 0), "promise 24: -4 before -2, relation " + relation);
            due.is(OUTSIDE, panel.counted(5, relation, 0), "promise 25: -4 before -2, relation " + relation);
        }
        for (int n : new int[] {1000000001, -1000000001, TripPanel.GAP, Integer.MIN_VALUE}) {
            due.is(OUTSIDE, panel.since(0, 0, n), "promise 24: n=" + n);
            due.is(OUTSIDE, panel.counted(0, 0, n), "promise 25: n=" + n);
            due.is(OUTSIDE, panel.since(-1, 0, n), "promise 24: -4 before -2, n=" + n);
            due.is(OUTSIDE, panel.counted(-1, 0, n), "promise 25: -4 before -2, n=" + n);
        }
        for (int g : new int[] {-1, 1, 15, 16, Integer.MIN_VALUE, Integer.MAX_VALUE}) {
            due.is(MISSING, panel.since(g, 0, 0), "promise 24: g=" + g);
            due.is(MISSING, panel.counted(g, 0, 0), "promise 25: g=" + g);
        }
    }
}
