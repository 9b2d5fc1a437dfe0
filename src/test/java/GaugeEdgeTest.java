/** The boundary cases of promises 1 to 11, a method for each sentence; RefusedTest has what is refused. */
public final class GaugeEdgeTest {
    private static final int MISSING = -2, GAP = TripPanel.GAP, NONE = TripPanel.NONE, GREATEST = 1000000000;
    private static final boolean[] BOTH = {false, true};
    private static final Due due = new Due("GaugeEdgeTest");

    public static void main(String[] args) {
        nothingAtFirst();
        noScanYet();
        objectsApart();
        madeOnce();
        madeAgain();
        limitStays();
        limitAnew();
        limitsOfGaugesApart();
        openAgain();
        openOneOfTwo();
        bandFromTheNextTaking();
        takeAnswers();
        gapOfAValue();
        gapLeavesTheRest();
        clearLeavesTheRest();
        clearOfNothing();
        clearOfOneAlone();
        shownNumber();
        markNumber();
        staleByScansAlone();
        due.end();
    }

    private static TripPanel withGauge(boolean narrow) {
        TripPanel panel = new TripPanel();
        panel.make(0, narrow);
        return panel;
    }

    private static void nothingAtFirst() {
        due.sentence("Promise 1: No gauges, conditions, trips");
        TripPanel panel = new TripPanel();
        for (int g = 0; g < 16; g++) {
            due.is(GAP, panel.shown(g), "shown(" + g + ")");
            due.is(MISSING, panel.take(g, 0), "take(" + g + ", 0)");
            due.is(NONE, panel.order(g), "order(" + g + ")");
        }
        for (int c = 0; c < 24; c++) {
            due.is(MISSING, panel.holds(c), "holds(" + c + ")");
        }
        for (int t = 0; t < 8; t++) {
            due.is(MISSING, panel.votes(t), "votes(" + t + ")");
        }
        due.is(NONE, panel.extreme(true), "extreme(true)");
        due.is(NONE, panel.extreme(false), "extreme(false)");
        due.is(0, panel.about(0), "gauges");
        due.is(0, panel.about(5), "TRIPPED");
    }

    private static void noScanYet() {
        due.sentence("Promise 1: no scan yet");
        TripPanel panel = new TripPanel();
        due.is(0, panel.about(1), "scans");
        due.is(0, panel.about(6), "EVENTS ever");
        for (int k = 0; k < 20; k++) {
            due.is(NONE, panel.event(k, 1), "event(" + k + ", 1)");
        }
        due.is(0, panel.scan(), "a scan of nothing");
        due.is(1, panel.about(1), "it counts");
        due.is(NONE, panel.event(0, 0), "it is no EVENT");
    }

    private static void objectsApart() {
        due.sentence("Promise 1: a new object beside another one");
        TripPanel busy = Twins.busy();
        TripPanel panel = new TripPanel();
        due.is(0, panel.about(0), "no gauges of the other one's");
        due.is(0, panel.about(6), "no EVENTS of the other one's");
        panel.make(0, true);
        panel.take(0, 7);
        due.is(14000, busy.shown(0), "the other one keeps its own");
        due.is(7, panel.shown(0), "as the new one does");
    }

    private static void madeOnce() {
        due.sentence("Promise 2: Gauge g is made: 1");
        TripPanel panel = new TripPanel();
        for (int g = 15; g >= 0; g--) {
            due.is(1, panel.make(g, g < 8), "make(" + g + ")");
            due.is(16 - g, panel.about(0), "so many gauges");
        }
        for (int g = 0; g < 16; g++) {
            panel.take(g, 100);
        }
        due.is(1, panel.stands(7, 2, 8), "0.1 of a narrow one is greater than of a wide one");
        due.is(1, panel.stands(0, 4, 7), "two narrow ones");
        due.is(1, panel.stands(15, 4, 8), "two wide ones");
    }

    private static void madeAgain() {
        due.sentence("Promise 2: 0 if it is there (it stays as it is)");
        for (boolean narrow : BOTH) {
            TripPanel panel = withGauge(narrow);
            panel.make(1, !narrow);
            panel.limit(0, true, 500);
            panel.band(0, 20);
            panel.scan();
            panel.take(0, 100);
            panel.take(1, 100);
            due.is(0, panel.make(0, !narrow), "make() again, otherwise");
            due.is(0, panel.make(0, narrow), "make() again, likewise");
            due.is(100, panel.shown(0), "what it has");
            due.is(100, panel.mark(0, true), "its MARK");
            due.is(1, panel.stale(0), "STALE");
            due.is(1, panel.counted(0, 4, 100), "its ROW");
            due.is(1, panel.stands(0, narrow ? 2 : 0, 1), "narrow or wide");
            due.is(1, panel.take(0, 110), "its BAND");
            due.is(0, panel.take(0, 501), "its HIGH");
        }
    }

    private static void limitStays() {
        due.sentence("Promise 3: (What the gauge has stays.)");
        for (boolean high : BOTH) {
            TripPanel panel = withGauge(high);
            panel.take(0, 50);
            due.is(1, panel.limit(0, high, high ? -GREATEST : GREATEST), "a limit that would cut it");
            due.is(50, panel.shown(0), "what it has");
            due.is(50, panel.mark(0, high), "its MARK");
            due.is(1, panel.counted(0, 4, 50), "its ROW");
            due.is(1, panel.counted(0, 5, 0), "its ROW, no longer");
            due.is(0, panel.extreme(true), "it has a value still");
            due.is(0, panel.take(0, 50), "the next taking is CUT");
        }
    }

    private static void limitAnew() {
        due.sentence("Promise 3: The HIGH or LOW limit becomes the value of n");
        TripPanel panel = withGauge(false);
        panel.limit(0, true, 10);
        panel.limit(0, true, 20);
        due.is(2, panel.take(0, 20), "a greater HIGH in its place");
        due.is(0, panel.take(0, 21), "above it");
        panel.limit(0, true, 5);
        due.is(0, panel.take(0, 6), "a lesser HIGH in its place");
        due.is(1, panel.open(0, true), "one HIGH to open");
        due.is(0, panel.open(0, true), "and no more");
        panel.limit(0, false, -5);
        panel.limit(0, false, -10);
        due.is(2, panel.take(0, -10), "a lesser LOW in its place");
        due.is(0, panel.take(0, -11), "below it");
    }

    private static void limitsOfGaugesApart() {
        due.sentence("Each gauge has a LOW and a HIGH limit, a BAND, MARKS, a ROW");
        TripPanel panel = withGauge(false);
        panel.make(1, false);
        panel.limit(0, true, 10);
        panel.band(0, 5);
        panel.take(0, 3);
        due.is(2, panel.take(1, 11), "another gauge's HIGH");
        due.is(2, panel.take(1, 12), "another gauge's BAND");
        due.is(3, panel.mark(0, true), "its MARKS");
        due.is(12, panel.mark(1, true), "another gauge's MARKS");
        due.is(1, panel.counted(0, 5, 0), "its ROW");
        due.is(2, panel.counted(1, 5, 0), "another gauge's ROW");
        due.is(0, panel.open(1, true), "another gauge has no HIGH to open");
        due.is(1, panel.open(0, true), "it has");
    }

    private static void openAgain() {
        due.sentence("Promise 4: There is no such limit any more: 1, or 0 if there was none");
        for (boolean high : BOTH) {
            TripPanel panel = withGauge(high);
            due.is(0, panel.open(0, high), "none at first");
            for (int n : new int[] {0, GREATEST, -GREATEST}) {
                panel.limit(0, high, n);
                due.is(1, panel.open(0, high), "a limit of " + n);
                due.is(0, panel.open(0, high), "none any more");
            }
            due.is(2, panel.take(0, high ? GREATEST : -GREATEST), "nothing is CUT");
        }
    }

    private static void openOneOfTwo() {
        due.sentence("Promise 4: no such limit");
        for (boolean high : BOTH) {
            TripPanel panel = withGauge(false);
            panel.limit(0, true, 1);
            panel.limit(0, false, -1);
            panel.take(0, 1);
            due.is(1, panel.open(0, high), "one of two");
            due.is(1, panel.shown(0), "what the gauge has stays");
            due.is(high ? 2 : 0, panel.take(0, 2), "above HIGH");
            due.is(high ? 0 : 2, panel.take(0, -2), "below LOW");
            due.is(1, panel.open(0, !high), "the other one is there still");
        }
    }

    private static void bandFromTheNextTaking() {
        due.sentence("Promise 5: The BAND");
        TripPanel panel = withGauge(false);
        panel.take(0, 0);
        panel.take(0, 3);
        due.is(1, panel.band(0, 5), "band 5");
        due.is(3, panel.shown(0), "what it has stays");
        due.is(1, panel.take(0, 7), "the next taking is STEADY");
        due.is(1, panel.band(0, 2), "band 2 in its place");
        due.is(2, panel.take(0, 7), "the next taking MOVES");
    }

    private static void takeAnswers() {
        due.sentence("Promise 6: The gauge takes n: 0 CUT, 1 STEADY, 2 it MOVES");
        TripPanel panel = withGauge(true);
        panel.limit(0, true, 1000);
        due.is(0, panel.take(0, 1001), "CUT with a GAP");
        due.is(2, panel.take(0, 1000), "it MOVES from a GAP");
        due.is(1, panel.take(0, 1000), "STEADY");
        due.is(2, panel.take(0, 999), "it MOVES from a value");
        due.is(0, panel.take(0, 1001), "CUT with a value");
        due.is(2, panel.about(2), "MOVED");
        due.is(1, panel.about(3), "STEADY");
        due.is(2, panel.about(4), "CUT");
    }

    private static void gapOfAValue() {
        due.sentence("Promise 7: 1 if it had a value, else 0");
        for (int n : new int[] {0, GREATEST, -GREATEST, -1}) {
            TripPanel panel = withGauge(n < 0);
            due.is(0, panel.gap(0), "as it is made");
            panel.take(0, n);
            due.is(1, panel.gap(0), "it had " + n);
            due.is(GAP, panel.shown(0), "it has a GAP");
            due.is(0, panel.gap(0), "it had a GAP");
            panel.limit(0, true, 0);
            panel.take(0, 1);
            due.is(0, panel.gap(0), "it had a GAP by a CUT");
        }
    }

    private static void gapLeavesTheRest() {
        due.sentence("Promise 7: The gauge has a GAP");
        TripPanel panel = withGauge(false);
        panel.limit(0, true, 1000);
        panel.band(0, 10);
        panel.take(0, 700);
        panel.gap(0);
        due.is(700, panel.mark(0, true), "its MARKS stay");
        due.is(0, panel.stale(0), "STALE stays");
        due.is(0, panel.about(3) + panel.about(4), "it is no taking");
        due.is(0, panel.take(0, 1001), "its HIGH stays");
        panel.take(0, 700);
        due.is(1, panel.take(0, 705), "its BAND stays");
    }

    private static void clearLeavesTheRest() {
        due.sentence("Promise 8: Its MARKS are GAPS, its ROW is empty (what it has stays): 1");
        TripPanel panel = withGauge(true);
        panel.limit(0, true, 1000);
        panel.limit(0, false, -1000);
        panel.band(0, 10);
        panel.scan();
        for (int i = 0; i < 13; i++) {
            panel.take(0, i * 50);
        }
        due.is(1, panel.clear(0), "clear()");
        due.is(GAP, panel.mark(0, true), "no greatest one");
        due.is(GAP, panel.mark(0, false), "no least one");
        due.is(0, panel.counted(0, 5, GREATEST), "an empty ROW");
        due.is(0, panel.since(0, 4, GREATEST), "an empty ROW");
        due.is(600, panel.shown(0), "what it has");
        due.is(1, panel.stale(0), "STALE");
        due.is(13, panel.about(2), "the counts");
        due.is(1, panel.take(0, 605), "the BAND, and w");
        due.is(1, panel.counted(0, 5, GREATEST), "a ROW of one");
        due.is(0, panel.take(0, 1001), "HIGH");
        due.is(0, panel.take(0, -1001), "LOW");
    }

    private static void clearOfNothing() {
        due.sentence("Promise 8: clear() of a gauge with a GAP, and again");
        TripPanel panel = withGauge(false);
        due.is(1, panel.clear(0), "as it is made");
        due.is(GAP, panel.shown(0), "a GAP stays");
        panel.gap(0);
        due.is(1, panel.clear(0), "behind gap()");
        due.is(1, panel.clear(0), "again");
        due.is(0, panel.counted(0, 5, 0), "an empty ROW");
    }

    private static void clearOfOneAlone() {
        due.sentence("Promise 8: Its MARKS, its ROW");
        TripPanel panel = withGauge(false);
        panel.make(15, false);
        panel.take(0, 1);
        panel.take(15, 2);
        panel.clear(0);
        due.is(2, panel.mark(15, true), "another gauge's MARKS stay");
        due.is(1, panel.counted(15, 4, 2), "another gauge's ROW stays");
    }

    private static void shownNumber() {
        due.sentence("Promise 9: The number whose value the gauge has");
        TripPanel panel = withGauge(true);
        panel.take(0, 999999999);
        due.is(999999999, panel.shown(0), "the number, not another one of its float");
        due.is(1, panel.take(0, GREATEST), "another number of that float is STEADY");
        due.is(999999999, panel.shown(0), "the number that it keeps");
        panel.take(0, -1);
        due.is(-1, panel.shown(0), "-1 is a number, not NONE");
    }

    private static void markNumber() {
        due.sentence("Promise 10: A MARK, of the greatest one or the least one");
        TripPanel panel = withGauge(false);
        panel.take(0, -GREATEST);
        due.is(-GREATEST, panel.mark(0, true), "the greatest one of one, the least number");
        panel.take(0, GREATEST);
        due.is(GREATEST, panel.mark(0, true), "the greatest number");
        due.is(-GREATEST, panel.mark(0, false), "the least number");
        panel.gap(0);
        for (int i = 0; i < 13; i++) {
            panel.take(0, i);
        }
        due.is(GREATEST, panel.mark(0, true), "though it left the ROW");
        due.is(-GREATEST, panel.mark(0, false), "though it left the ROW");
    }

    private static void staleByScansAlone() {
        due.sentence("Promise 11: By how many scans the gauge is STALE");
        TripPanel panel = withGauge(false);
        panel.gap(0);
        panel.gap(0);
        due.is(0, panel.stale(0), "gap() is no scan");
        panel.scan();
        panel.scan();
        due.is(2, panel.stale(0), "two scans");
        panel.take(0, 1);
        panel.gap(0);
        panel.scan();
        due.is(3, panel.stale(0), "a value between two scans is seen by none");
        panel.take(0, 1);
        panel.scan();
        due.is(0, panel.stale(0), "a value at a scan");
    }
}
