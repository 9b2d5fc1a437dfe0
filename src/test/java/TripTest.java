/** Promises 16 to 21, 26 and 27: trips, scans, events and counts. */
public final class TripTest {
    private static final int MISSING = -2, OUTSIDE = -4, STILL_DUE = -5;
    private static final int[] NO_TRIPS = {-1, 7, 8, Integer.MIN_VALUE, Integer.MAX_VALUE};
    private static final Due due = new Due("TripTest");

    public static void main(String[] args) {
        trip();
        tripAnew();
        part();
        partRefused();
        scan();
        scanStales();
        scanInOrder();
        reset();
        votes();
        redefined();
        tripped();
        event();
        eventsKept();
        about();
        due.end();
    }

    /** Conditions 0 to 5: gauge c is at 1.0 or above. */
    private static TripPanel withConditions() {
        TripPanel panel = new TripPanel();
        for (int g = 0; g < 6; g++) {
            panel.make(g, g % 2 == 1);
            panel.level(g, 3, g, 1000, false);
        }
        return panel;
    }

    private static void trip() {
        TripPanel panel = new TripPanel();
        for (int t = 0; t < 8; t++) {
            due.is(1, panel.trip(t, 1 + t % 6), "promise 16: trip(" + t + ")");
            due.is(0, panel.votes(t), "promise 16: without conditions");
            due.is(0, panel.tripped(t), "promise 16: not TRIPPED");
        }
        TripPanel other = new TripPanel();
        for (int t : new int[] {-1, 8, Integer.MIN_VALUE, Integer.MAX_VALUE}) {
            due.is(OUTSIDE, other.trip(t, 1), "promise 16: t=" + t);
        }
        for (int votes : new int[] {0, 7, -1, Integer.MIN_VALUE, Integer.MAX_VALUE}) {
            due.is(OUTSIDE, other.trip(0, votes), "promise 16: votes=" + votes);
        }
        due.is(MISSING, other.tripped(0), "promise 16: refused ones make nothing");
        due.is(1, other.trip(0, 6), "promise 16: six votes");
        due.is(0, panel.scan(), "promise 16: none trips without conditions");
    }

    private static void tripAnew() {
        TripPanel panel = withConditions();
        panel.take(0, 1000);
        panel.trip(2, 1);
        panel.part(2, 0);
        panel.scan();
        due.is(1, panel.tripped(2), "promise 16: it is TRIPPED");
        due.is(OUTSIDE, panel.trip(2, 7), "promise 16: refused");
        due.is(1, panel.tripped(2), "promise 16: a refused one changes nothing");
        due.is(1, panel.votes(2), "promise 16: a refused one changes nothing");
        due.is(1, panel.trip(2, 2), "promise 16: anew");
        due.is(0, panel.tripped(2), "promise 16: anew not TRIPPED");
        due.is(0, panel.votes(2), "promise 16: anew without conditions");
        due.is(0, panel.about(5), "promise 16: none is TRIPPED");
        due.is(1, panel.about(6), "promise 16: the EVENT stays");
        due.is(1, panel.part(2, 0), "promise 16: parts from one on");
        due.is(0, panel.scan(), "promise 16: the new VOTES count");
        due.is(2, panel.part(2, 0), "promise 16: the second");
        due.is(1, panel.scan(), "promise 16: two votes");
    }

    private static void part() {
        TripPanel panel = withConditions();
        panel.trip(0, 1);
        for (int count = 1; count <= 6; count++) {
            due.is(count, panel.part(0, count % 2), "promise 17: part " + count);
        }
        due.is(TripPanel.NONE, panel.part(0, 0), "promise 17: it has six");
        due.is(TripPanel.NONE, panel.part(0, 5), "promise 17: it has six, another one");
        due.is(MISSING, panel.part(0, 6), "promise 17: it has six, and no such condition");
        panel.take(0, 1000);
        due.is(3, panel.votes(0), "promise 17: each time that it stands there");
        panel.take(5, 1000);
        due.is(3, panel.votes(0), "promise 17: the seventh is not there");
    }

    private static void partRefused() {
        TripPanel panel = withConditions();
        panel.trip(0, 1);
        for (int t : NO_TRIPS) {
            due.is(MISSING, panel.part(t, 0), "promise 17: t=" + t);
        }
        for (int c : new int[] {-1, 6, 23, 24, Integer.MIN_VALUE, Integer.MAX_VALUE}) {
            due.is(MISSING, panel.part(0, c), "promise 17: c=" + c);
        }
        due.is(1, panel.part(0, 0), "promise 17: refused ones change nothing");
    }

    private static void scan() {
        TripPanel panel = withConditions();
        panel.trip(0, 2);
        panel.part(0, 0);
        panel.part(0, 1);
        panel.part(0, 2);
        due.is(0, panel.scan(), "promise 18: none holds");
        panel.take(2, 1000);
        due.is(0, panel.scan(), "promise 18: below its VOTES");
        panel.take(1, 2000);
        due.is(0, panel.tripped(0), "promise 18: only a scan trips");
        due.is(1, panel.scan(), "promise 18: at its VOTES");
        due.is(1, panel.tripped(0), "promise 18: TRIPPED");
        due.is(1, panel.event(0, 2), "promise 18: the first of its conditions that holds");
        due.is(3, panel.event(0, 1), "promise 18: the scan's number");
        due.is(0, panel.scan(), "promise 18: it is TRIPPED already");
        panel.gap(1);
        due.is(0, panel.scan(), "promise 18: it stays so");
        due.is(1, panel.tripped(0), "promise 18: it stays so");
        due.is(5, panel.about(1), "promise 18: five scans");
        due.is(1, panel.about(6), "promise 18: one EVENT");
    }

    private static void scanStales() {
        TripPanel panel = new TripPanel();
        panel.make(3, false);
        panel.make(15, true);
        panel.take(15, 1);
        for (int scan = 1; scan <= 5; scan++) {
            panel.scan();
            due.is(scan, panel.stale(3), "promise 18: a GAP at scan " + scan);
            due.is(0, panel.stale(15), "promise 18: a value at scan " + scan);
        }
        panel.limit(15, true, 0);
        panel.take(15, 1);
        panel.take(3, 0);
        panel.scan();
        due.is(0, panel.stale(3), "promise 18: stale by none");
        due.is(1, panel.stale(15), "promise 18: a CUT leaves a GAP");
    }

    private static void scanInOrder() {
        TripPanel panel = withConditions();
        panel.take(4, 1000);
        panel.take(5, 1000);
        for (int t = 7; t >= 0; t--) {
            panel.trip(t, 1);
            panel.part(t, 0);
            panel.part(t, t % 2 == 0 ? 4 : 5);
        }
        due.is(8, panel.scan(), "promise 18: eight at once");
        for (int k = 0; k < 8; k++) {
            int t = 7 - k;
            due.is(t, panel.event(k, 0), "promise 18: the trips from 0 on");
            due.is(1, panel.event(k, 1), "promise 18: one scan");
            due.is(t % 2 == 0 ? 4 : 5, panel.event(k, 2), "promise 18: its condition");
        }
        due.is(8, panel.about(5), "promise 18: eight are TRIPPED");
    }

    private static void reset() {
        TripPanel panel = withConditions();
        for (int t : NO_TRIPS) {
            due.is(MISSING, panel.reset(t), "promise 19: t=" + t);
        }
        panel.trip(7, 1);
        due.is(0, panel.reset(7), "promise 19: it was not TRIPPED");
        panel.part(7, 3);
        panel.take(3, 1000);
        due.is(STILL_DUE, panel.reset(7), "promise 19: not TRIPPED, but NOW is not below");
        panel.scan();
        due.is(STILL_DUE, panel.reset(7), "promise 19: TRIPPED, and NOW is not below");
        due.is(1, panel.tripped(7), "promise 19: it stays TRIPPED");
        panel.take(3, 999);
        due.is(1, panel.reset(7), "promise 19: it was TRIPPED");
        due.is(0, panel.tripped(7), "promise 19: it is not any more");
        due.is(0, panel.reset(7), "promise 19: again");
        panel.take(3, 1000);
        due.is(1, panel.scan(), "promise 19: it trips again");
        due.is(2, panel.about(6), "promise 19: two EVENTS");
    }

    private static void votes() {
        TripPanel panel = withConditions();
        for (int t : NO_TRIPS) {
            due.is(MISSING, panel.votes(t), "promise 20: t=" + t);
        }
        panel.trip(1, 6);
        for (int c = 0; c < 6; c++) {
            panel.part(1, c);
        }
        for (int g = 0; g < 6; g++) {
            due.is(g, panel.votes(1), "promise 20: NOW");
            panel.take(g, 1000);
        }
        due.is(6, panel.votes(1), "promise 20: all six");
        due.is(1, panel.scan(), "promise 20: six votes of six");
        panel.gap(0);
        due.is(5, panel.votes(1), "promise 20: NOW, while TRIPPED");
    }

    private static void redefined() {
        TripPanel panel = withConditions();
        panel.trip(0, 1);
        panel.part(0, 0);
        due.is(0, panel.votes(0), "promise 20: it does not hold");
        panel.level(0, 3, 0, 1000, true);
        due.is(1, panel.votes(0), "promise 20: defined anew, so in the trip");
        panel.between(0, 4, 0, 0, false);
        due.is(0, panel.votes(0), "promise 20: defined anew as a pair");
        panel.take(0, 0);
        due.is(1, panel.votes(0), "promise 20: it holds");
    }

    private static void tripped() {
        TripPanel panel = withConditions();
        for (int t : NO_TRIPS) {
            due.is(MISSING, panel.tripped(t), "promise 21: t=" + t);
        }
        panel.trip(3, 1);
        panel.trip(4, 1);
        panel.part(3, 1);
        panel.take(1, 1000);
        due.is(0, panel.tripped(3), "promise 21: before the scan");
        panel.scan();
        due.is(1, panel.tripped(3), "promise 21: behind the scan");
        due.is(0, panel.tripped(4), "promise 21: the other one");
    }

    private static void event() {
        TripPanel panel = withConditions();
        panel.trip(6, 1);
        panel.part(6, 2);
        panel.part(6, 1);
        panel.scan();
        panel.take(1, 1000);
        panel.scan();
        due.is(6, panel.event(0, 0), "promise 26: the trip");
        due.is(2, panel.event(0, 1), "promise 26: the scan");
        due.is(1, panel.event(0, 2), "promise 26: the condition");
        for (int what : new int[] {-1, 3, Integer.MIN_VALUE, Integer.MAX_VALUE}) {
            due.is(TripPanel.NONE, panel.event(0, what), "promise 26: what=" + what);
        }
        for (int k : new int[] {-1, 1, 19, 20, Integer.MIN_VALUE, Integer.MAX_VALUE}) {
            for (int what = 0; what < 3; what++) {
                due.is(TripPanel.NONE, panel.event(k, what), "promise 26: k=" + k + " what=" + what);
            }
        }
        panel.level(1, 3, 1, 1000, true);
        panel.trip(6, 1);
        due.is(1, panel.event(0, 2), "promise 26: an EVENT stays as it was");
    }

    /** Each count on a panel of its own: an object is used for at most 512 calls. */
    private static void eventsKept() {
        for (int made = 1; made <= 30; made++) {
            TripPanel panel = withEvents(made);
            due.is(made, panel.about(6), "promise 27: EVENTS ever");
            for (int k = 0; k < 22; k++) {
                boolean kept = k < made && k < 20;
                int which = made - 1 - k;
                due.is(kept ? which % 3 : TripPanel.NONE, panel.event(k, 0), "promise 26: trip, k=" + k);
                due.is(kept ? which + 1 : TripPanel.NONE, panel.event(k, 1), "promise 26: scan, k=" + k);
                due.is(kept ? 5 - which % 3 : TripPanel.NONE, panel.event(k, 2), "promise 26: condition, k=" + k);
            }
        }
    }

    private static TripPanel withEvents(int count) {
        TripPanel panel = withConditions();
        for (int t = 0; t < 3; t++) {
            panel.trip(t, 1);
            panel.part(t, 5 - t);
        }
        for (int made = 0; made < count; made++) {
            int t = made % 3;
            panel.take(5 - t, 1000);
            due.is(1, panel.scan(), "promise 26: EVENT " + made);
            panel.gap(5 - t);
            due.is(1, panel.reset(t), "promise 26: reset");
        }
        return panel;
    }

    private static void about() {
        TripPanel panel = withConditions();
        panel.limit(0, true, 3000);
        panel.take(0, 1000);
        panel.take(1, 1000);
        panel.take(2, 1000);
        panel.take(2, 1000);
        panel.take(1, 1000);
        panel.take(0, 3001);
        panel.trip(0, 1);
        panel.part(0, 1);
        panel.trip(1, 1);
        panel.part(1, 2);
        panel.scan();
        panel.scan();
        panel.scan();
        panel.scan();
        panel.gap(1);
        panel.reset(0);
        due.is(6, panel.about(0), "promise 27: gauges");
        due.is(4, panel.about(1), "promise 27: scans");
        due.is(3, panel.about(2), "promise 27: MOVED");
        due.is(2, panel.about(3), "promise 27: STEADY");
        due.is(1, panel.about(4), "promise 27: CUT");
        due.is(1, panel.about(5), "promise 27: TRIPPED");
        due.is(2, panel.about(6), "promise 27: EVENTS");
        for (int what : new int[] {-1, 7, Integer.MIN_VALUE, Integer.MAX_VALUE}) {
            due.is(TripPanel.NONE, panel.about(what), "promise 27: what=" + what);
        }
    }
}
