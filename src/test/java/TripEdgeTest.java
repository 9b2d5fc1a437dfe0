/** The boundary cases of promises 16 to 21, 26 and 27, a method for each sentence; RefusedTest has what is refused. */
public final class TripEdgeTest {
    private static final int MISSING = -2, STILL_DUE = -5, NONE = TripPanel.NONE;
    private static final Due due = new Due("TripEdgeTest");

    public static void main(String[] args) {
        tripAnew();
        tripAnewLeavesTheRest();
        partAnswers();
        partWhenFull();
        partOfNoCondition();
        partWhileTripped();
        scanOfNone();
        scanOfAll();
        scanAges();
        resetAtItsVotes();
        resetBelowItsVotes();
        resetLeavesTheRest();
        votesOfNone();
        votesWhileTripped();
        trippedByAScan();
        eventWithout();
        eventOfAnotherWhat();
        eventStays();
        aboutGauges();
        aboutTakings();
        aboutTripped();
        aboutEvents();
        aboutOthers();
        due.end();
    }

    /** Condition 0 holds, condition 1 does not, condition 2 holds while gauge 1 has a value. */
    private static TripPanel withConditions() {
        TripPanel panel = new TripPanel();
        panel.make(0, false);
        panel.make(1, true);
        panel.between(0, 5, 0, 0, false);
        panel.between(1, 4, 0, 0, false);
        panel.between(2, 4, 1, 1, false);
        return panel;
    }

    private static void parts(TripPanel panel, int t, int votes, int... conditions) {
        panel.trip(t, votes);
        for (int c : conditions) {
            panel.part(t, c);
        }
    }

    private static void tripAnew() {
        due.sentence("Promise 16: Trip t is (anew) one with so many VOTES, without conditions, not TRIPPED: 1");
        TripPanel panel = withConditions();
        parts(panel, 7, 1, 0, 0, 0, 0, 0, 0);
        due.is(1, panel.scan(), "it trips");
        due.is(1, panel.trip(7, 2), "anew, while TRIPPED and NOW is six");
        due.is(0, panel.tripped(7), "not TRIPPED");
        due.is(0, panel.votes(7), "without conditions");
        due.is(0, panel.reset(7), "below its VOTES");
        due.is(1, panel.part(7, 0), "room for six again");
        due.is(0, panel.scan(), "below its new VOTES");
        due.is(2, panel.part(7, 0), "the second");
        due.is(1, panel.scan(), "at its new VOTES");
    }

    private static void tripAnewLeavesTheRest() {
        due.sentence("Promise 16: Trip t");
        TripPanel panel = withConditions();
        parts(panel, 0, 1, 0);
        parts(panel, 1, 1, 0);
        panel.scan();
        panel.trip(0, 6);
        due.is(1, panel.tripped(1), "another trip stays TRIPPED");
        due.is(1, panel.votes(1), "another trip keeps its conditions");
        due.is(2, panel.about(6), "EVENTS ever");
        due.is(1, panel.about(5), "TRIPPED now");
        due.is(0, panel.event(1, 0), "its EVENT is kept");
        due.is(1, panel.holds(0), "its condition is there");
    }

    private static void partAnswers() {
        due.sentence("Promise 17: The trip has condition c, too, behind those that it has: how many");
        TripPanel panel = withConditions();
        panel.trip(0, 6);
        panel.trip(1, 6);
        int[] conditions = {0, 1, 2, 0, 1, 2};
        for (int i = 0; i < 6; i++) {
            due.is(i + 1, panel.part(0, conditions[i]), "part " + i);
            due.is(i / 3 + 1, panel.votes(0), "NOW behind part " + i);
        }
        due.is(1, panel.part(1, 0), "another trip has its own");
    }

    private static void partWhenFull() {
        due.sentence("Promise 17: NONE when it has six");
        TripPanel panel = withConditions();
        parts(panel, 0, 6, 1, 1, 1, 1, 1);
        due.is(6, panel.part(0, 1), "the sixth");
        for (int more = 0; more < 3; more++) {
            due.is(NONE, panel.part(0, 0), "the seventh");
        }
        due.is(0, panel.votes(0), "the seventh is not in it");
        due.is(0, panel.scan(), "nor does it vote");
    }

    private static void partOfNoCondition() {
        due.sentence("Promise 17: -2; NONE when it has six");
        TripPanel panel = withConditions();
        due.is(MISSING, panel.part(0, 0), "no trip");
        due.is(MISSING, panel.part(0, 3), "no trip, no condition");
        parts(panel, 0, 6, 0, 0, 0, 0, 0, 0);
        due.is(MISSING, panel.part(0, 3), "a full trip, no condition");
        due.is(MISSING, panel.part(0, 24), "a full trip, no condition's number");
        due.is(NONE, panel.part(0, 1), "a full trip, a condition");
    }

    private static void partWhileTripped() {
        due.sentence("Promise 17: The trip has condition c, too, while it is TRIPPED");
        TripPanel panel = withConditions();
        parts(panel, 0, 1, 0);
        panel.scan();
        due.is(2, panel.part(0, 0), "the second");
        due.is(1, panel.tripped(0), "it stays TRIPPED");
        due.is(2, panel.votes(0), "NOW");
    }

    private static void scanOfNone() {
        due.sentence("Promise 18: how many were TRIPPED by it: none");
        TripPanel panel = new TripPanel();
        due.is(0, panel.scan(), "a new object");
        panel = withConditions();
        due.is(0, panel.scan(), "no trips");
        panel.trip(0, 1);
        due.is(0, panel.scan(), "a trip without conditions");
        panel.part(0, 1);
        due.is(0, panel.scan(), "a condition that does not hold");
        due.is(3, panel.about(1), "three scans");
        due.is(0, panel.about(6), "no EVENT");
    }

    private static void scanOfAll() {
        due.sentence("Promise 18: how many were TRIPPED by it: some, all");
        for (int count = 1; count <= 8; count++) {
            TripPanel panel = withConditions();
            for (int t = 0; t < count; t++) {
                parts(panel, t, 1, 0);
            }
            for (int t = count; t < 8; t++) {
                parts(panel, t, 1, 1);
            }
            due.is(count, panel.scan(), count + " of eight");
            due.is(count, panel.about(5), count + " are TRIPPED");
            due.is(0, panel.scan(), "none once more");
        }
    }

    private static void scanAges() {
        due.sentence("Promise 18: A SCAN, with gauges 0 and 15");
        TripPanel panel = new TripPanel();
        panel.make(0, false);
        panel.make(15, false);
        panel.scan();
        due.is(1, panel.stale(0), "gauge 0");
        due.is(1, panel.stale(15), "gauge 15");
        panel.take(15, 0);
        panel.scan();
        due.is(2, panel.stale(0), "gauge 0, a GAP still");
        due.is(0, panel.stale(15), "gauge 15, the value 0");
    }

    private static void resetAtItsVotes() {
        due.sentence("Promise 19: -5 while NOW is not below its VOTES (TRIPPED or not)");
        for (int votes = 1; votes <= 6; votes++) {
            TripPanel panel = withConditions();
            panel.trip(0, votes);
            for (int now = 0; now <= 6; now++) {
                due.is(now >= votes ? STILL_DUE : 0, panel.reset(0), now + " hold of " + votes + ", not TRIPPED");
                due.is(0, panel.tripped(0), "it is not TRIPPED");
                panel.part(0, 0);
            }
            panel.scan();
            due.is(STILL_DUE, panel.reset(0), "TRIPPED");
            due.is(1, panel.tripped(0), "it stays TRIPPED");
        }
    }

    private static void resetBelowItsVotes() {
        due.sentence("Promise 19: else 0 if it was not TRIPPED, 1 if it was");
        TripPanel panel = withConditions();
        parts(panel, 0, 2, 0, 2);
        due.is(0, panel.reset(0), "NOW is one below");
        panel.take(1, 5);
        due.is(1, panel.scan(), "it trips");
        panel.gap(1);
        due.is(1, panel.reset(0), "it was TRIPPED, NOW is one below");
        due.is(0, panel.tripped(0), "it is not any more");
        due.is(0, panel.reset(0), "it was not");
        due.is(0, panel.scan(), "it does not trip below its VOTES");
    }

    private static void resetLeavesTheRest() {
        due.sentence("Promise 19: The trip is not TRIPPED any more");
        TripPanel panel = withConditions();
        panel.take(1, 5);
        parts(panel, 0, 1, 2);
        parts(panel, 1, 1, 2);
        panel.scan();
        panel.gap(1);
        panel.reset(0);
        due.is(1, panel.tripped(1), "another trip");
        due.is(1, panel.about(5), "TRIPPED");
        due.is(2, panel.about(6), "EVENTS ever");
        due.is(0, panel.event(1, 0), "its EVENT");
        due.is(2, panel.part(0, 2), "its conditions");
        panel.take(1, 6);
        due.is(2, panel.votes(0), "its conditions hold");
        due.is(1, panel.scan(), "it trips anew");
        due.is(2, panel.event(0, 1), "by the second scan");
    }

    private static void votesOfNone() {
        due.sentence("Promise 20: NOW, of none and of all");
        TripPanel panel = withConditions();
        panel.trip(0, 1);
        due.is(0, panel.votes(0), "without conditions");
        for (int part = 0; part < 3; part++) {
            panel.part(0, 1);
        }
        due.is(0, panel.votes(0), "none holds");
        for (int part = 1; part <= 3; part++) {
            panel.part(0, 0);
            due.is(part, panel.votes(0), "more than its VOTES");
        }
    }

    private static void votesWhileTripped() {
        due.sentence("Promise 20: NOW, not as it was at the scan");
        TripPanel panel = withConditions();
        panel.take(1, 5);
        parts(panel, 0, 2, 2, 2);
        panel.scan();
        panel.gap(1);
        due.is(0, panel.votes(0), "now none holds");
        due.is(1, panel.tripped(0), "though it is TRIPPED");
    }

    private static void trippedByAScan() {
        due.sentence("Promise 21: 1 if the trip is TRIPPED, else 0");
        TripPanel panel = withConditions();
        parts(panel, 7, 1, 0);
        due.is(0, panel.tripped(7), "due, before the scan");
        panel.scan();
        due.is(1, panel.tripped(7), "behind the scan");
        panel.take(0, 1);
        due.is(1, panel.tripped(7), "not due any more, not reset");
        panel.reset(7);
        due.is(0, panel.tripped(7), "reset");
    }

    private static void eventWithout() {
        due.sentence("Promise 26: NONE without");
        TripPanel panel = withConditions();
        due.is(NONE, panel.event(0, 0), "no EVENT yet");
        parts(panel, 0, 1, 0);
        panel.scan();
        for (int what = 0; what < 3; what++) {
            due.is(what == 1 ? 1 : 0, panel.event(0, what), "the latest, what " + what);
            for (int k : new int[] {-1, 1, 19, 20, 21, Integer.MIN_VALUE, Integer.MAX_VALUE}) {
                due.is(NONE, panel.event(k, what), "event(" + k + ", " + what + ")");
            }
        }
    }

    private static void eventOfAnotherWhat() {
        due.sentence("Promise 26: NONE for another what");
        TripPanel panel = Twins.busy();
        for (int what : new int[] {-1, 3, 4, Integer.MIN_VALUE, Integer.MAX_VALUE}) {
            due.is(NONE, panel.event(0, what), "the latest, what " + what);
            due.is(NONE, panel.event(19, what), "the last kept, what " + what);
            due.is(NONE, panel.event(20, what), "one that is not kept, what " + what);
        }
    }

    private static void eventStays() {
        due.sentence("Promise 26: an EVENT: the trip, the scan's number, the first of its conditions that holds (then)");
        TripPanel panel = withConditions();
        parts(panel, 6, 1, 1, 2, 0);
        panel.take(1, 5);
        panel.scan();
        due.is(2, panel.event(0, 2), "the first that holds");
        panel.gap(1);
        due.is(2, panel.event(0, 2), "though now another one is the first");
        panel.between(2, 4, 0, 0, false);
        panel.trip(6, 2);
        panel.scan();
        due.is(6, panel.event(0, 0), "the trip");
        due.is(1, panel.event(0, 1), "the scan");
        due.is(2, panel.event(0, 2), "the condition");
    }

    private static void aboutGauges() {
        due.sentence("Promise 27: 0 gauges, 1 scans");
        TripPanel panel = new TripPanel();
        for (int g = 0; g < 16; g++) {
            due.is(g, panel.about(0), "gauges");
            panel.make(g, false);
            panel.make(g, true);
            panel.make(16, true);
        }
        due.is(16, panel.about(0), "sixteen");
        due.is(0, panel.about(1), "no scan");
        panel.scan();
        due.is(1, panel.about(1), "one scan");
    }

    private static void aboutTakings() {
        due.sentence("Promise 27: 2 takings that MOVED, 3 were STEADY, 4 were CUT");
        TripPanel panel = withConditions();
        panel.limit(0, true, 10);
        panel.take(0, 11);
        panel.take(0, 10);
        panel.take(0, 10);
        panel.take(0, 10);
        panel.take(1, 11);
        panel.take(1, 12);
        panel.take(1, 13);
        panel.take(0, 1000000001);
        panel.take(9, 0);
        panel.gap(1);
        panel.clear(0);
        due.is(4, panel.about(2), "MOVED, of both gauges");
        due.is(2, panel.about(3), "STEADY");
        due.is(1, panel.about(4), "CUT");
    }

    private static void aboutTripped() {
        due.sentence("Promise 27: 5 trips that are TRIPPED");
        TripPanel panel = withConditions();
        panel.take(1, 5);
        for (int t = 0; t < 8; t++) {
            parts(panel, t, 1, 2);
        }
        due.is(0, panel.about(5), "due, before the scan");
        panel.scan();
        panel.gap(1);
        for (int t = 0; t < 8; t++) {
            due.is(8 - t, panel.about(5), "with " + t + " less");
            due.is(1, t % 2 == 0 ? panel.reset(t) : panel.trip(t, 1), "reset, or anew");
        }
        due.is(0, panel.about(5), "none");
    }

    private static void aboutEvents() {
        due.sentence("Promise 27: 6 EVENTS ever");
        TripPanel panel = withConditions();
        for (int count = 0; count < 25; count++) {
            due.is(count, panel.about(6), "EVENTS, beyond those that are kept");
            parts(panel, 4, 1, 0);
            panel.scan();
        }
        due.is(25, panel.about(6), "EVENTS");
        due.is(6, panel.event(19, 1), "the last kept one's scan");
        due.is(NONE, panel.event(20, 1), "no more are kept");
    }

    private static void aboutOthers() {
        due.sentence("Promise 27: NONE for others");
        TripPanel panel = Twins.busy();
        for (int what : new int[] {-1, 7, 8, Integer.MIN_VALUE, Integer.MAX_VALUE}) {
            due.is(NONE, panel.about(what), "about(" + what + ")");
        }
    }
}
