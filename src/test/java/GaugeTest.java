/** Promises 1 to 11: the new object, and what one gauge has and keeps. */
public final class GaugeTest {
    private static final int NO_GAUGE = -2, OUTSIDE = -4;
    private static final int[] NO_SUCH = {-1, 1, 15, 16, Integer.MIN_VALUE, Integer.MAX_VALUE};
    private static final int[] NO_NUMBERS = {1000000001, -1000000001, TripPanel.GAP, Integer.MIN_VALUE, Integer.MAX_VALUE};
    private static final Due due = new Due("GaugeTest");

    public static void main(String[] args) {
        newObject();
        make();
        limit();
        limitsAreValues();
        open();
        band();
        bandIsAValue();
        take();
        takeRefused();
        gap();
        clear();
        shown();
        mark();
        marksAreOfValues();
        stale();
        due.end();
    }

    private static TripPanel withGauge(boolean narrow) {
        TripPanel panel = new TripPanel();
        panel.make(0, narrow);
        return panel;
    }

    private static void newObject() {
        TripPanel panel = new TripPanel();
        for (int what = 0; what <= 6; what++) {
            due.is(0, panel.about(what), "promise 1: about(" + what + ") of a new object");
        }
        for (int g = 0; g < 16; g++) {
            due.is(NO_GAUGE, panel.stale(g), "promise 1: stale(" + g + ")");
        }
        for (int c = 0; c < 24; c++) {
            due.is(NO_GAUGE, panel.holds(c), "promise 1: holds(" + c + ")");
        }
        for (int t = 0; t < 8; t++) {
            due.is(NO_GAUGE, panel.tripped(t), "promise 1: tripped(" + t + ")");
        }
        due.is(TripPanel.NONE, panel.order(0), "promise 1: order(0)");
        due.is(TripPanel.NONE, panel.event(0, 0), "promise 1: event(0, 0)");
        due.is(0, panel.scan(), "promise 1: scan()");
        due.is(1, panel.about(1), "promise 1: the first scan's number");
    }

    private static void make() {
        TripPanel panel = new TripPanel();
        for (int g = 0; g < 16; g++) {
            due.is(1, panel.make(g, g % 2 == 0), "promise 2: make(" + g + ")");
            due.is(TripPanel.GAP, panel.shown(g), "promise 2: a gauge has a GAP as it is made");
        }
        due.is(16, panel.about(0), "promise 2: sixteen gauges");
        for (int g : new int[] {-1, 16, Integer.MIN_VALUE, Integer.MAX_VALUE}) {
            due.is(OUTSIDE, panel.make(g, true), "promise 2: make(" + g + ")");
        }
        due.is(16, panel.about(0), "promise 2: refused ones are not made");
        panel.take(1, 100);
        panel.take(2, 100);
        due.is(0, panel.make(1, true), "promise 2: make() again");
        due.is(100, panel.shown(1), "promise 2: it keeps what it has");
        due.is(1, panel.stands(2, 2, 1), "promise 2: it stays wide");
        due.is(16, panel.about(0), "promise 2: it is one still");
    }

    private static void limit() {
        for (boolean narrow : new boolean[] {false, true}) {
            TripPanel panel = withGauge(narrow);
            panel.take(0, 9000);
            due.is(1, panel.limit(0, true, 5000), "promise 3: HIGH");
            due.is(1, panel.limit(0, false, 1000), "promise 3: LOW");
            due.is(9000, panel.shown(0), "promise 3: what the gauge has stays");
            due.is(0, panel.take(0, 999), "promise 3: below LOW");
            due.is(2, panel.take(0, 1000), "promise 3: at LOW");
            due.is(0, panel.take(0, 5001), "promise 3: above HIGH");
            due.is(2, panel.take(0, 5000), "promise 3: at HIGH");
            panel.limit(0, true, 900);
            due.is(0, panel.take(0, 950), "promise 3: LOW above HIGH cuts all");
            due.is(1, panel.limit(0, true, 1000000000), "promise 3: the greatest number");
            due.is(1, panel.limit(0, false, -1000000000), "promise 3: the least number");
            due.is(2, panel.take(0, -1000000000), "promise 3: at the least number");
            for (int n : NO_NUMBERS) {
                due.is(OUTSIDE, panel.limit(0, true, n), "promise 3: limit n=" + n);
                due.is(OUTSIDE, panel.limit(9, false, n), "promise 3: -4 before -2, n=" + n);
            }
            for (int g : NO_SUCH) {
                due.is(NO_GAUGE, panel.limit(g, false, 0), "promise 3: limit g=" + g);
            }
            due.is(2, panel.take(0, 1000000000), "promise 3: refused ones change nothing");
        }
    }

    /** 16777217 and 16777216 are one float: the limit is a value, not a number. */
    private static void limitsAreValues() {
        TripPanel narrow = withGauge(true);
        narrow.limit(0, true, 16777216);
        due.is(2, narrow.take(0, 16777217), "promise 3: narrow, the same float as HIGH");
        narrow.limit(0, false, 16777217);
        narrow.gap(0);
        due.is(2, narrow.take(0, 16777216), "promise 3: narrow, the same float as LOW");
        TripPanel wide = withGauge(false);
        wide.limit(0, true, 16777216);
        due.is(0, wide.take(0, 16777217), "promise 3: wide, above HIGH");
    }

    private static void open() {
        TripPanel panel = withGauge(false);
        due.is(0, panel.open(0, true), "promise 4: no HIGH at first");
        due.is(0, panel.open(0, false), "promise 4: no LOW at first");
        panel.limit(0, true, 0);
        panel.limit(0, false, 0);
        due.is(1, panel.open(0, true), "promise 4: HIGH was there");
        due.is(2, panel.take(0, 1), "promise 4: no HIGH any more");
        due.is(0, panel.take(0, -1), "promise 4: LOW is there still");
        due.is(0, panel.open(0, true), "promise 4: HIGH was gone");
        due.is(1, panel.open(0, false), "promise 4: LOW was there");
        due.is(2, panel.take(0, -1), "promise 4: no LOW any more");
        due.is(0, panel.open(0, false), "promise 4: LOW was gone");
        for (int g : NO_SUCH) {
            due.is(NO_GAUGE, panel.open(g, true), "promise 4: open g=" + g);
        }
    }

    private static void band() {
        for (boolean narrow : new boolean[] {false, true}) {
            TripPanel panel = withGauge(narrow);
            panel.take(0, 0);
            due.is(2, panel.take(0, 1), "promise 5: the BAND is 0 at first");
            due.is(1, panel.take(0, 1), "promise 5: the same is within 0");
            due.is(1, panel.band(0, 1000), "promise 5: band");
            due.is(1, panel.take(0, 1001), "promise 5: just the BAND above");
            due.is(1, panel.take(0, -999), "promise 5: just the BAND below");
            due.is(2, panel.take(0, 1002), "promise 5: beyond the BAND");
            due.is(1, panel.band(0, 1000000), "promise 5: the greatest BAND");
            due.is(1, panel.take(0, -900000), "promise 5: within the greatest BAND");
            due.is(OUTSIDE, panel.band(0, 1000001), "promise 5: too great");
            due.is(OUTSIDE, panel.band(0, -1), "promise 5: below 0");
            due.is(OUTSIDE, panel.band(0, Integer.MAX_VALUE), "promise 5: far too great");
            due.is(OUTSIDE, panel.band(7, Integer.MIN_VALUE), "promise 5: -4 before -2");
            due.is(1, panel.take(0, -900000), "promise 5: refused ones change nothing");
            due.is(1, panel.band(0, 0), "promise 5: the least BAND");
            due.is(2, panel.take(0, 1003), "promise 5: BAND 0 again");
            for (int g : NO_SUCH) {
                due.is(NO_GAUGE, panel.band(g, 5), "promise 5: band g=" + g);
            }
        }
    }

    /** Found by search: numbers where whole thousandths, doubles and floats decide differently. */
    private static void bandIsAValue() {
        for (int w = 0; w < 300; w++) {
            for (int step = 1; step < 60; step++) {
                steadyAsDoubles(w, w + step, step);
                steadyAsDoubles(w + step, w, step);
                steadyAsFloats(w, w + step, step);
                steadyAsFloats(w + step, w, step);
            }
        }
        due.is(2, takenWithBand(false, 100, 400, 300), "promise 5: 0.4 less 0.1 is more than 0.3 as doubles");
        due.is(1, takenWithBand(true, 16777216, 16777217, 0), "promise 5: one float, though two numbers");
        due.is(2, takenWithBand(false, 16777216, 16777217, 0), "promise 5: two doubles");
    }

    private static void steadyAsDoubles(int w, int v, int step) {
        boolean steady = Math.abs(w / 1000.0 - v / 1000.0) <= step / 1000.0;
        due.is(steady ? 1 : 2, takenWithBand(false, w, v, step), "promise 5: wide " + w + " to " + v);
    }

    private static void steadyAsFloats(int w, int v, int step) {
        boolean steady = Math.abs(w / 1000f - v / 1000f) <= step / 1000f;
        due.is(steady ? 1 : 2, takenWithBand(true, w, v, step), "promise 5: narrow " + w + " to " + v);
    }

    private static int takenWithBand(boolean narrow, int w, int v, int step) {
        TripPanel panel = withGauge(narrow);
        panel.band(0, step);
        panel.take(0, w);
        return panel.take(0, v);
    }

    private static void take() {
        TripPanel panel = withGauge(false);
        panel.limit(0, true, 10000);
        panel.band(0, 500);
        due.is(2, panel.take(0, 1000), "promise 6: the first one MOVES");
        due.is(1, panel.take(0, 1500), "promise 6: STEADY");
        due.is(1000, panel.shown(0), "promise 6: STEADY keeps w");
        due.is(2, panel.take(0, 1501), "promise 6: w is the old one, not the last taken");
        due.is(0, panel.take(0, 10001), "promise 6: CUT, though no value is near");
        due.is(TripPanel.GAP, panel.shown(0), "promise 6: CUT leaves a GAP");
        due.is(2, panel.take(0, 1501), "promise 6: behind a GAP it MOVES");
        due.is(2, panel.take(0, 9900), "promise 6: it MOVES");
        due.is(0, panel.take(0, 10100), "promise 6: CUT goes before STEADY");
        due.is(4, panel.about(2), "promise 6: MOVED");
        due.is(1, panel.about(3), "promise 6: STEADY");
        due.is(2, panel.about(4), "promise 6: CUT");
    }

    private static void takeRefused() {
        TripPanel panel = withGauge(true);
        panel.take(0, 42);
        for (int n : NO_NUMBERS) {
            due.is(OUTSIDE, panel.take(0, n), "promise 6: take n=" + n);
            due.is(OUTSIDE, panel.take(3, n), "promise 6: -4 before -2, n=" + n);
        }
        for (int g : NO_SUCH) {
            due.is(NO_GAUGE, panel.take(g, 0), "promise 6: take g=" + g);
        }
        due.is(42, panel.shown(0), "promise 6: refused ones change nothing");
        due.is(1, panel.counted(0, 4, 42), "promise 6: nor the ROW");
        due.is(0, panel.counted(0, 5, 42), "promise 6: nor the ROW with GAPS");
        due.is(1, panel.about(2) + panel.about(3) + panel.about(4), "promise 6: nor the counts");
        due.is(2, panel.take(0, 1000000000), "promise 6: the greatest number");
        due.is(2, panel.take(0, -1000000000), "promise 6: the least number");
    }

    private static void gap() {
        TripPanel panel = withGauge(false);
        due.is(0, panel.gap(0), "promise 7: it had a GAP");
        panel.take(0, 0);
        due.is(1, panel.gap(0), "promise 7: it had the value 0");
        due.is(TripPanel.GAP, panel.shown(0), "promise 7: it has a GAP");
        due.is(0, panel.gap(0), "promise 7: again");
        due.is(3, panel.counted(0, 5, 0), "promise 7: each gap() stands in the ROW");
        due.is(0, panel.mark(0, true), "promise 7: MARKS stay");
        due.is(0, panel.about(4), "promise 7: a gap() is no CUT");
        for (int g : NO_SUCH) {
            due.is(NO_GAUGE, panel.gap(g), "promise 7: gap g=" + g);
        }
    }

    private static void clear() {
        TripPanel panel = withGauge(false);
        panel.limit(0, true, 9000);
        panel.band(0, 50);
        panel.take(0, 700);
        panel.take(0, 300);
        due.is(1, panel.clear(0), "promise 8: clear");
        due.is(TripPanel.GAP, panel.mark(0, true), "promise 8: no greatest one");
        due.is(TripPanel.GAP, panel.mark(0, false), "promise 8: no least one");
        due.is(0, panel.since(0, 4, 0), "promise 8: the ROW is empty");
        due.is(0, panel.counted(0, 5, 0), "promise 8: nothing is unlike");
        due.is(300, panel.shown(0), "promise 8: what it has stays");
        due.is(1, panel.take(0, 340), "promise 8: the BAND stays");
        due.is(TripPanel.GAP, panel.mark(0, true), "promise 8: STEADY makes no MARK");
        due.is(1, panel.counted(0, 4, 300), "promise 8: the ROW goes on");
        due.is(0, panel.take(0, 9001), "promise 8: the limit stays");
        panel.take(0, 5);
        due.is(5, panel.mark(0, true), "promise 8: MARKS anew");
        due.is(3, panel.about(2), "promise 8: counts stay");
        for (int g : NO_SUCH) {
            due.is(NO_GAUGE, panel.clear(g), "promise 8: clear g=" + g);
        }
    }

    private static void shown() {
        TripPanel panel = withGauge(true);
        due.is(TripPanel.GAP, panel.shown(0), "promise 9: a GAP");
        panel.take(0, 16777217);
        due.is(16777217, panel.shown(0), "promise 9: the number, not the float");
        due.is(1, panel.take(0, 16777216), "promise 9: the same float");
        due.is(16777217, panel.shown(0), "promise 9: the number that it MOVED to");
        for (int g : NO_SUCH) {
            due.is(TripPanel.GAP, panel.shown(g), "promise 9: shown g=" + g);
        }
    }

    private static void mark() {
        TripPanel panel = withGauge(false);
        due.is(TripPanel.GAP, panel.mark(0, true), "promise 10: no greatest one yet");
        due.is(TripPanel.GAP, panel.mark(0, false), "promise 10: no least one yet");
        panel.limit(0, true, 5000);
        panel.band(0, 100);
        panel.take(0, -20);
        due.is(-20, panel.mark(0, true), "promise 10: the first is the greatest");
        due.is(-20, panel.mark(0, false), "promise 10: and the least");
        panel.take(0, 60);
        due.is(-20, panel.mark(0, true), "promise 10: STEADY is no move");
        panel.take(0, 6000);
        due.is(-20, panel.mark(0, true), "promise 10: CUT is no move");
        panel.take(0, 4000);
        panel.take(0, -4000);
        panel.take(0, 0);
        due.is(4000, panel.mark(0, true), "promise 10: the greatest");
        due.is(-4000, panel.mark(0, false), "promise 10: the least");
        for (int g : NO_SUCH) {
            due.is(TripPanel.GAP, panel.mark(g, true), "promise 10: greatest g=" + g);
            due.is(TripPanel.GAP, panel.mark(g, false), "promise 10: least g=" + g);
        }
    }

    private static void marksAreOfValues() {
        TripPanel panel = withGauge(true);
        panel.take(0, 16777216);
        panel.gap(0);
        due.is(2, panel.take(0, 16777217), "promise 10: it MOVES to the same float");
        due.is(16777216, panel.mark(0, true), "promise 10: of the same the first one is the greatest");
        panel.clear(0);
        panel.gap(0);
        panel.take(0, 16777217);
        panel.gap(0);
        panel.take(0, 16777216);
        due.is(16777217, panel.mark(0, false), "promise 10: of the same the first one is the least");
    }

    private static void stale() {
        TripPanel panel = withGauge(false);
        panel.make(1, true);
        due.is(0, panel.stale(0), "promise 11: no scan yet");
        panel.take(1, 5);
        panel.scan();
        panel.scan();
        due.is(2, panel.stale(0), "promise 11: two scans with a GAP");
        due.is(0, panel.stale(1), "promise 11: with a value");
        panel.take(0, 5);
        due.is(2, panel.stale(0), "promise 11: only a scan changes it");
        panel.gap(1);
        due.is(0, panel.stale(1), "promise 11: only a scan changes it");
        panel.scan();
        due.is(0, panel.stale(0), "promise 11: by none again");
        due.is(1, panel.stale(1), "promise 11: by one");
        panel.clear(1);
        due.is(1, panel.stale(1), "promise 11: clear() leaves it");
        for (int g : new int[] {-1, 2, 16, Integer.MIN_VALUE, Integer.MAX_VALUE}) {
            due.is(NO_GAUGE, panel.stale(g), "promise 11: stale g=" + g);
        }
    }
}
