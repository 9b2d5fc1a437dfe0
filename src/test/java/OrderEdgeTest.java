/** The boundary cases of promises 22 to 25, a method for each sentence; RefusedTest has what is refused. */
public final class OrderEdgeTest {
    private static final int NONE = TripPanel.NONE, GREATEST = 1000000000;
    private static final Due due = new Due("OrderEdgeTest");

    public static void main(String[] args) {
        orderOfValues();
        orderOfTheSame();
        orderAsDoubles();
        orderOfGaps();
        orderWithout();
        extremeAtTheEnds();
        extremeOfTheSame();
        extremeAsDoubles();
        extremeOfNone();
        sinceUpToTheFirst();
        sinceUpToTheEnd();
        countedOfNoneAndAll();
        rowWrapsAround();
        rowStandsToTheValue();
        due.end();
    }

    private static TripPanel withGauges(int count) {
        TripPanel panel = new TripPanel();
        for (int g = 0; g < count; g++) {
            panel.make(g, false);
        }
        return panel;
    }

    private static void order(TripPanel panel, int... want) {
        for (int k = 0; k < want.length; k++) {
            due.is(want[k], panel.order(k), "order(" + k + ")");
        }
        for (int k : new int[] {-1, want.length, 16, Integer.MIN_VALUE, Integer.MAX_VALUE}) {
            due.is(NONE, panel.order(k), "order(" + k + ")");
        }
    }

    private static void orderOfValues() {
        due.sentence("Promise 22: those that have values, from the greatest on (as doubles)");
        TripPanel panel = withGauges(16);
        for (int g = 0; g < 16; g++) {
            panel.take(g, g * 7 % 16 - 8);
        }
        int[] want = new int[16];
        for (int g = 0; g < 16; g++) {
            want[15 - g * 7 % 16] = g;
        }
        order(panel, want);
        TripPanel ends = withGauges(3);
        ends.take(0, -GREATEST);
        ends.take(1, 0);
        ends.take(2, GREATEST);
        order(ends, 2, 1, 0);
    }

    private static void orderOfTheSame() {
        due.sentence("Promise 22: of the same value by number");
        TripPanel panel = withGauges(16);
        for (int g = 15; g >= 0; g--) {
            panel.take(g, 5);
        }
        order(panel, 0, 1, 2, 3, 4, 5, 6, 7, 8, 9, 10, 11, 12, 13, 14, 15);
        panel.take(3, 6);
        panel.take(9, 4);
        order(panel, 3, 0, 1, 2, 4, 5, 6, 7, 8, 10, 11, 12, 13, 14, 15, 9);
    }

    private static TripPanel mixed(int n) {
        TripPanel panel = new TripPanel();
        for (int g = 0; g < 4; g++) {
            panel.make(g, g % 2 == 1);
            panel.take(g, n);
        }
        return panel;
    }

    private static void orderAsDoubles() {
        due.sentence("Promise 22: as doubles");
        order(mixed(100), 1, 3, 0, 2);
        order(mixed(700), 0, 2, 1, 3);
        order(mixed(-100), 0, 2, 1, 3);
        order(mixed(-700), 1, 3, 0, 2);
        order(mixed(500), 0, 1, 2, 3);
        order(mixed(0), 0, 1, 2, 3);
    }

    private static void orderOfGaps() {
        due.sentence("Promise 22: then those that have GAPS, by number");
        TripPanel panel = withGauges(5);
        order(panel, 0, 1, 2, 3, 4);
        panel.take(4, -GREATEST);
        order(panel, 4, 0, 1, 2, 3);
        panel.take(2, 0);
        order(panel, 2, 4, 0, 1, 3);
        panel.gap(4);
        order(panel, 2, 0, 1, 3, 4);
        panel.limit(2, true, -1);
        order(panel, 2, 0, 1, 3, 4);
        panel.take(2, 0);
        order(panel, 0, 1, 2, 3, 4);
    }

    private static void orderWithout() {
        due.sentence("Promise 22: NONE without");
        order(new TripPanel());
        TripPanel last = new TripPanel();
        last.make(15, true);
        order(last, 15);
        last.take(15, 0);
        order(last, 15);
        TripPanel apart = new TripPanel();
        apart.make(12, false);
        apart.make(3, false);
        order(apart, 3, 12);
    }

    private static void extremeAtTheEnds() {
        due.sentence("Promise 23: The gauge that has the greatest value, or the least one");
        for (int one = 0; one < 16; one++) {
            TripPanel panel = withGauges(16);
            for (int g = 0; g < 16; g++) {
                panel.take(g, g == one ? GREATEST : g == (one + 1) % 16 ? -GREATEST : g);
            }
            due.is(one, panel.extreme(true), "the greatest one is " + one);
            due.is((one + 1) % 16, panel.extreme(false), "the least one is behind " + one);
        }
    }

    private static void extremeOfTheSame() {
        due.sentence("Promise 23: of the same the least number");
        TripPanel panel = withGauges(16);
        for (int g = 15; g >= 4; g--) {
            panel.take(g, -3);
            due.is(g, panel.extreme(true), "the greatest one of the same");
            due.is(g, panel.extreme(false), "the least one of the same");
        }
        panel.gap(4);
        due.is(5, panel.extreme(true), "the next number");
    }

    private static void extremeAsDoubles() {
        due.sentence("Promise 23: as doubles");
        due.is(1, mixed(100).extreme(true), "0.1, the greatest");
        due.is(0, mixed(100).extreme(false), "0.1, the least");
        due.is(0, mixed(700).extreme(true), "0.7, the greatest");
        due.is(1, mixed(700).extreme(false), "0.7, the least");
        due.is(0, mixed(500).extreme(true), "0.5, the greatest");
        due.is(0, mixed(500).extreme(false), "0.5, the least");
    }

    private static void extremeOfNone() {
        due.sentence("Promise 23: NONE if none has a value");
        TripPanel panel = new TripPanel();
        due.is(NONE, panel.extreme(true), "no gauges");
        panel = withGauges(2);
        due.is(NONE, panel.extreme(true), "GAPS alone");
        due.is(NONE, panel.extreme(false), "GAPS alone");
        panel.take(1, -GREATEST);
        due.is(1, panel.extreme(true), "the least number alone");
        due.is(1, panel.extreme(false), "the least number alone");
        panel.gap(1);
        due.is(NONE, panel.extreme(true), "GAPS again");
        due.is(NONE, panel.extreme(false), "GAPS again");
    }

    private static void sinceUpToTheFirst() {
        due.sentence("Promise 24: from the latest on, stand not in a relation to the value of n, up to the first that does");
        TripPanel panel = withGauges(1);
        for (int n : new int[] {5, 1, 5, 2, 3}) {
            panel.take(0, n);
        }
        due.is(2, panel.since(0, 4, 5), "the latest of two that do");
        due.is(0, panel.since(0, 4, 3), "the latest does");
        due.is(1, panel.since(0, 0, 3), "the second does");
        due.is(3, panel.since(0, 0, 2), "the fourth does");
        panel.gap(0);
        due.is(1, panel.since(0, 4, 3), "a GAP is one that does not");
        due.is(0, panel.since(0, 5, 3), "a GAP is one that is unlike");
    }

    private static void sinceUpToTheEnd() {
        due.sentence("Promise 24: or its end");
        TripPanel panel = withGauges(1);
        for (int count = 0; count <= 15; count++) {
            int length = Math.min(count, 12);
            due.is(length, panel.since(0, 2, GREATEST), "none is greater, of " + count);
            due.is(length, panel.since(0, 0, -GREATEST), "none is less, of " + count);
            due.is(0, panel.since(0, 3, -GREATEST), "the latest does, of " + count);
            panel.take(0, count);
        }
    }

    private static void countedOfNoneAndAll() {
        due.sentence("Promise 25: How many in the ROW stand in a relation to the value of n");
        TripPanel panel = withGauges(1);
        for (int count = 0; count <= 15; count++) {
            int length = Math.min(count, 12);
            due.is(length, panel.counted(0, 1, GREATEST), "all, of " + count);
            due.is(0, panel.counted(0, 2, GREATEST), "none, of " + count);
            due.is(length, panel.counted(0, 5, GREATEST), "all are unlike, of " + count);
            panel.take(0, count * 1000);
        }
        due.is(2, panel.counted(0, 2, 13000), "greater");
        due.is(3, panel.counted(0, 3, 13000), "greater or the same");
        due.is(9, panel.counted(0, 0, 13000), "less");
        due.is(10, panel.counted(0, 1, 13000), "less or the same");
        due.is(1, panel.counted(0, 4, 13000), "the same");
        due.is(11, panel.counted(0, 5, 13000), "unlike");
    }

    private static void rowWrapsAround() {
        due.sentence("Promises 24, 25: GAPS and values that leave the ROW");
        TripPanel panel = withGauges(1);
        panel.gap(0);
        for (int i = 1; i <= 11; i++) {
            panel.take(0, i);
        }
        due.is(12, panel.counted(0, 5, 0), "one GAP and eleven values");
        due.is(11, panel.counted(0, 2, 0), "eleven values");
        panel.take(0, 12);
        due.is(12, panel.counted(0, 2, 0), "the GAP left it");
        panel.gap(0);
        due.is(11, panel.counted(0, 2, 0), "a GAP came, 1 left it");
        due.is(12, panel.since(0, 4, 1), "1 left it");
        due.is(11, panel.since(0, 4, 2), "2 is the last");
        for (int i = 0; i < 11; i++) {
            panel.gap(0);
        }
        due.is(0, panel.counted(0, 2, 0), "GAPS alone");
        due.is(12, panel.counted(0, 5, 0), "twelve GAPS");
        due.is(12, panel.since(0, 3, -GREATEST), "no value up to its end");
    }

    private static void rowStandsToTheValue() {
        due.sentence("Promises 24, 25: to the value of n");
        TripPanel panel = new TripPanel();
        panel.make(0, true);
        panel.make(1, false);
        for (int g = 0; g < 2; g++) {
            panel.take(g, 999999968);
            panel.take(g, 100);
        }
        due.is(1, panel.counted(0, 4, GREATEST), "one float");
        due.is(1, panel.since(0, 4, GREATEST), "one float");
        due.is(0, panel.counted(1, 4, GREATEST), "two doubles");
        due.is(2, panel.since(1, 4, GREATEST), "two doubles");
        due.is(1, panel.counted(0, 4, 100), "0.1 as a float");
        due.is(0, panel.since(1, 4, 100), "0.1 as a double");
    }
}
