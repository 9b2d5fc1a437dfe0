/** The boundary cases that the document's "Terms" name, a method for each sentence. */
public final class TermsEdgeTest {
    private static final int OUTSIDE = -4, MISSING = -2, GAP = TripPanel.GAP, NONE = TripPanel.NONE;
    private static final int GREATEST = 1000000000;
    private static final boolean[] BOTH = {false, true};
    private static final Due due = new Due("TermsEdgeTest");

    public static void main(String[] args) {
        numbers();
        numbersOutside();
        gauges();
        gapAsMade();
        relations();
        gapOnOneSide();
        gapOnBothSides();
        gapAgainstALevel();
        gapInTheRow();
        limitsAtFirst();
        bandAtFirst();
        marksOfNone();
        marksOfTheSame();
        marksSinceCleared();
        rowOfTheLatestTwelve();
        rowOfWhatItHad();
        cut();
        cutGoesFirst();
        lowAboveHigh();
        steady();
        steadyNeedsAValue();
        moves();
        conditionNumbers();
        conditionOfItself();
        turned();
        tripNumbers();
        votesFromOneToSix();
        sixConditions();
        severalTimes();
        definedAnew();
        scanNumbers();
        stale();
        notBelowItsVotes();
        trippedAlready();
        tripsFromZeroOn();
        firstThatHolds();
        latestTwentyEvents();
        firstOfTheseRefusals();
        fiveHundredAndTwelveCalls();
        due.end();
    }

    private static TripPanel withGauge(boolean narrow) {
        TripPanel panel = new TripPanel();
        panel.make(0, narrow);
        return panel;
    }

    private static TripPanel withGauges(boolean narrow, boolean otherNarrow) {
        TripPanel panel = withGauge(narrow);
        panel.make(1, otherNarrow);
        return panel;
    }

    private static void numbers() {
        due.sentence("NUMBERS are whole, from -1000000000 to 1000000000");
        for (boolean narrow : BOTH) {
            for (int n : new int[] {-GREATEST, GREATEST}) {
                TripPanel panel = withGauge(narrow);
                due.is(1, panel.limit(0, n > 0, n), "limit n=" + n);
                due.is(2, panel.take(0, n), "take n=" + n);
                due.is(n, panel.shown(0), "shown");
                due.is(n, panel.mark(0, n > 0), "mark");
                due.is(1, panel.level(0, 4, 0, n, false), "level n=" + n);
                due.is(1, panel.holds(0), "it is at the level");
                due.is(0, panel.since(0, 4, n), "since n=" + n);
                due.is(1, panel.counted(0, 4, n), "counted n=" + n);
            }
        }
    }

    private static void numbersOutside() {
        due.sentence("REFUSED: -4 a number is outside");
        for (int n : new int[] {-GREATEST - 1, GREATEST + 1, GAP, -GAP, Integer.MIN_VALUE, Integer.MAX_VALUE}) {
            TripPanel panel = withGauge(n > 0);
            due.is(OUTSIDE, panel.limit(0, true, n), "limit HIGH n=" + n);
            due.is(OUTSIDE, panel.limit(0, false, n), "limit LOW n=" + n);
            due.is(OUTSIDE, panel.take(0, n), "take n=" + n);
            due.is(OUTSIDE, panel.band(0, n), "band n=" + n);
            due.is(OUTSIDE, panel.level(0, 0, 0, n, false), "level n=" + n);
            due.is(OUTSIDE, panel.since(0, 0, n), "since n=" + n);
            due.is(OUTSIDE, panel.counted(0, 0, n), "counted n=" + n);
        }
    }

    private static void gauges() {
        due.sentence("A GAUGE (0 .. 15, when it was made)");
        for (int made = 0; made < 16; made++) {
            for (int g = -1; g <= 16; g++) {
                TripPanel panel = new TripPanel();
                panel.make(made, false);
                there(panel, made, g);
            }
        }
    }

    private static void there(TripPanel panel, int made, int g) {
        boolean there = g == made;
        String what = "gauge " + g + " when " + made + " was made";
        due.is(there ? 1 : MISSING, panel.limit(g, true, 9), "limit, " + what);
        due.is(there ? 1 : MISSING, panel.open(g, true), "open, " + what);
        due.is(there ? 1 : MISSING, panel.band(g, 1), "band, " + what);
        due.is(there ? 2 : MISSING, panel.take(g, 5), "take, " + what);
        due.is(there ? 5 : GAP, panel.shown(g), "shown, " + what);
        due.is(there ? 5 : GAP, panel.mark(g, true), "mark, " + what);
        due.is(there ? 5 : GAP, panel.mark(g, false), "mark, " + what);
        due.is(there ? 0 : MISSING, panel.stale(g), "stale, " + what);
        due.is(there ? 1 : MISSING, panel.stands(g, 4, made), "stands on the left, " + what);
        due.is(there ? 1 : MISSING, panel.stands(made, 4, g), "stands on the right, " + what);
        due.is(there ? 1 : MISSING, panel.between(0, 4, g, made, false), "between on the left, " + what);
        due.is(there ? 1 : MISSING, panel.between(0, 4, made, g, false), "between on the right, " + what);
        due.is(there ? 1 : MISSING, panel.level(0, 4, g, 5, false), "level, " + what);
        due.is(there ? 0 : MISSING, panel.since(g, 4, 5), "since, " + what);
        due.is(there ? 1 : MISSING, panel.counted(g, 4, 5), "counted, " + what);
        due.is(there ? 1 : MISSING, panel.gap(g), "gap, " + what);
        due.is(there ? 1 : MISSING, panel.clear(g), "clear, " + what);
    }

    private static void gapAsMade() {
        due.sentence("A gauge has a value, or a GAP; a GAP as it is made");
        for (boolean narrow : BOTH) {
            TripPanel panel = withGauge(narrow);
            due.is(GAP, panel.shown(0), "shown");
            due.is(0, panel.gap(0), "gap(): it had no value");
            TripPanel other = withGauge(narrow);
            due.is(NONE, other.extreme(true), "no gauge has a value");
            due.is(0, other.counted(0, 5, 0), "the GAP as made is not in the ROW");
            other.scan();
            due.is(1, other.stale(0), "STALE by the first scan");
        }
    }

    private static void relations() {
        due.sentence("RELATIONS: 0 less .. 5 unlike");
        TripPanel panel = withGauges(false, false);
        panel.take(0, 1);
        panel.take(1, 1);
        for (int relation : new int[] {-1, 6, 7, Integer.MIN_VALUE, Integer.MAX_VALUE}) {
            due.is(OUTSIDE, panel.stands(0, relation, 1), "stands, relation " + relation);
            due.is(OUTSIDE, panel.between(0, relation, 0, 1, false), "between, relation " + relation);
            due.is(OUTSIDE, panel.level(0, relation, 0, 1, false), "level, relation " + relation);
            due.is(OUTSIDE, panel.since(0, relation, 1), "since, relation " + relation);
            due.is(OUTSIDE, panel.counted(0, relation, 1), "counted, relation " + relation);
        }
        int[] same = {0, 1, 0, 1, 1, 0};
        for (int relation = 0; relation <= 5; relation++) {
            due.is(same[relation], panel.stands(0, relation, 1), "stands, relation " + relation);
            due.is(1, panel.between(0, relation, 0, 1, false), "between, relation " + relation);
            due.is(same[relation], panel.holds(0), "between holds, relation " + relation);
            due.is(1, panel.level(0, relation, 0, 1, false), "level, relation " + relation);
            due.is(same[relation], panel.holds(0), "level holds, relation " + relation);
            due.is(1 - same[relation], panel.since(0, relation, 1), "since, relation " + relation);
            due.is(same[relation], panel.counted(0, relation, 1), "counted, relation " + relation);
        }
    }

    private static void standsAsGap(TripPanel panel, int a, int b) {
        for (int relation = 0; relation < 6; relation++) {
            int want = relation == 5 ? 1 : 0;
            due.is(want, panel.stands(a, relation, b), "stands(" + a + ", " + relation + ", " + b + ")");
            panel.between(9, relation, a, b, false);
            due.is(want, panel.holds(9), "between(" + a + ", " + relation + ", " + b + ")");
        }
    }

    private static void gapOnOneSide() {
        due.sentence("Where a GAP is on one side 0 to 4 do not hold and 5 holds");
        for (boolean narrow : BOTH) {
            for (boolean otherNarrow : BOTH) {
                for (int n : new int[] {-GREATEST, 0, GREATEST}) {
                    TripPanel panel = withGauges(narrow, otherNarrow);
                    panel.take(0, n);
                    standsAsGap(panel, 0, 1);
                    standsAsGap(panel, 1, 0);
                }
            }
        }
    }

    private static void gapOnBothSides() {
        due.sentence("Where a GAP is on both sides 0 to 4 do not hold and 5 holds (a GAP is unlike itself, too)");
        for (boolean narrow : BOTH) {
            TripPanel panel = withGauges(narrow, narrow);
            standsAsGap(panel, 0, 1);
            standsAsGap(panel, 0, 0);
            TripPanel lost = withGauges(narrow, !narrow);
            lost.take(0, 5);
            lost.take(1, 5);
            lost.gap(0);
            lost.limit(1, true, 0);
            lost.take(1, 5);
            standsAsGap(lost, 0, 1);
            standsAsGap(lost, 1, 1);
        }
    }

    private static void gapAgainstALevel() {
        due.sentence("A CONDITION between a gauge with a GAP and a LEVEL");
        for (int n : new int[] {-GREATEST, 0, GREATEST}) {
            TripPanel panel = withGauge(n == 0);
            for (int relation = 0; relation < 6; relation++) {
                panel.level(0, relation, 0, n, false);
                due.is(relation == 5 ? 1 : 0, panel.holds(0), "relation " + relation + " to " + n);
            }
        }
    }

    private static void gapInTheRow() {
        due.sentence("GAPS in a ROW stand in 5 alone");
        TripPanel panel = withGauge(true);
        panel.gap(0);
        panel.gap(0);
        for (int relation = 0; relation < 6; relation++) {
            due.is(relation == 5 ? 2 : 0, panel.counted(0, relation, 0), "counted, relation " + relation);
            due.is(relation == 5 ? 0 : 2, panel.since(0, relation, 0), "since, relation " + relation);
        }
    }

    private static void limitsAtFirst() {
        due.sentence("a LOW and a HIGH limit, a value or none (at first)");
        for (boolean narrow : BOTH) {
            TripPanel panel = withGauge(narrow);
            due.is(2, panel.take(0, GREATEST), "no HIGH at first");
            due.is(2, panel.take(0, -GREATEST), "no LOW at first");
            due.is(0, panel.open(0, true), "HIGH was none");
            due.is(0, panel.open(0, false), "LOW was none");
            panel.limit(0, true, 0);
            panel.limit(0, false, 0);
            due.is(1, panel.open(0, true), "HIGH 0 was a value");
            due.is(1, panel.open(0, false), "LOW 0 was a value");
        }
    }

    private static void bandAtFirst() {
        due.sentence("a BAND, a number 0 .. 1000000 (0 at first)");
        for (boolean narrow : BOTH) {
            TripPanel panel = withGauge(narrow);
            panel.take(0, 0);
            due.is(1, panel.take(0, 0), "the same value is STEADY");
            due.is(2, panel.take(0, 1), "the next value MOVES");
            due.is(OUTSIDE, panel.band(0, -1), "band -1");
            due.is(OUTSIDE, panel.band(0, 1000001), "band 1000001");
            due.is(1, panel.band(0, 1000000), "band 1000000");
            due.is(1, panel.take(0, 999999), "within it");
            due.is(1, panel.band(0, 0), "band 0");
            due.is(2, panel.take(0, 999999), "beyond it");
        }
    }

    private static void marksOfNone() {
        due.sentence("MARKS: GAPS if there are none");
        TripPanel panel = withGauge(false);
        panel.limit(0, true, 0);
        panel.take(0, 1);
        panel.gap(0);
        due.is(GAP, panel.mark(0, true), "the greatest one behind a CUT and a gap()");
        due.is(GAP, panel.mark(0, false), "the least one behind a CUT and a gap()");
        panel.take(0, 0);
        due.is(0, panel.mark(0, true), "the greatest one of one");
        due.is(0, panel.mark(0, false), "the least one of one");
    }

    private static void marksOfTheSame() {
        due.sentence("MARKS: of the same the first one");
        TripPanel panel = withGauge(true);
        int[] oneFloat = {999999970, GREATEST, 999999968};
        for (int n : oneFloat) {
            panel.gap(0);
            due.is(2, panel.take(0, n), "MOVES behind a GAP");
            due.is(oneFloat[0], panel.mark(0, true), "the greatest one behind " + n);
            due.is(oneFloat[0], panel.mark(0, false), "the least one behind " + n);
        }
        panel.take(0, 0);
        panel.take(0, -GREATEST);
        panel.take(0, 0);
        panel.take(0, -999999968);
        panel.take(0, GREATEST);
        due.is(oneFloat[0], panel.mark(0, true), "the greatest one, come to again");
        due.is(-GREATEST, panel.mark(0, false), "the least one, come to again");
    }

    private static void marksSinceCleared() {
        due.sentence("MARKS: of those that it MOVED to since it was made or cleared");
        TripPanel panel = withGauge(false);
        panel.take(0, 500);
        panel.take(0, -500);
        panel.clear(0);
        due.is(1, panel.take(0, -500), "STEADY behind clear()");
        due.is(GAP, panel.mark(0, true), "what it had before is none of them");
        panel.take(0, 7);
        due.is(7, panel.mark(0, true), "the greatest one since");
        due.is(7, panel.mark(0, false), "the least one since");
    }

    private static void rowOfTheLatestTwelve() {
        due.sentence("a ROW: the latest 12, the latest first");
        for (int count = 0; count <= 40; count++) {
            TripPanel panel = withGauge(count % 2 == 0);
            for (int i = 1; i <= count; i++) {
                panel.take(0, i * 1000);
            }
            int length = Math.min(count, 12);
            due.is(length, panel.counted(0, 5, 0), "its length behind " + count);
            for (int place = 0; place < 14; place++) {
                int n = (count - place) * 1000;
                boolean inside = place < length;
                due.is(inside ? 1 : 0, panel.counted(0, 4, n), "place " + place + " behind " + count);
                due.is(inside ? place : length, panel.since(0, 4, n), "place " + place + " behind " + count);
            }
        }
    }

    private static void rowOfWhatItHad() {
        due.sentence("a ROW of what it had behind each take() and gap() since then");
        TripPanel panel = withGauge(false);
        panel.limit(0, true, 9000);
        panel.band(0, 10);
        panel.take(0, 1000);
        panel.take(0, 1005);
        due.is(2, panel.counted(0, 4, 1000), "STEADY: what it keeps, not what it took");
        due.is(0, panel.counted(0, 4, 1005), "STEADY: what it keeps, not what it took");
        panel.take(0, 9001);
        due.is(1, panel.since(0, 4, 1000), "CUT: a GAP");
        panel.gap(0);
        due.is(2, panel.since(0, 4, 1000), "gap(): a GAP");
        panel.gap(0);
        due.is(3, panel.since(0, 4, 1000), "gap() of a GAP: one more");
        panel.scan();
        panel.limit(0, false, 5);
        panel.open(0, false);
        panel.make(0, true);
        due.is(5, panel.counted(0, 5, 0), "no other call adds to it");
    }

    private static void cut() {
        due.sentence("TAKING: it is CUT if v is less than LOW or greater than HIGH: the gauge has a GAP then");
        for (boolean narrow : BOTH) {
            TripPanel panel = withGauge(narrow);
            panel.limit(0, false, -3);
            panel.limit(0, true, 4);
            due.is(2, panel.take(0, -3), "at LOW");
            due.is(0, panel.take(0, -4), "below LOW");
            due.is(GAP, panel.shown(0), "a GAP below LOW");
            due.is(2, panel.take(0, 4), "at HIGH");
            due.is(0, panel.take(0, 5), "above HIGH");
            due.is(GAP, panel.shown(0), "a GAP above HIGH");
            due.is(0, panel.take(0, 5), "CUT again, with a GAP");
            due.is(0, panel.take(0, GREATEST), "far above HIGH");
            due.is(0, panel.take(0, -GREATEST), "far below LOW");
        }
    }

    private static void cutGoesFirst() {
        due.sentence("TAKING: Else it is STEADY");
        TripPanel panel = withGauge(false);
        panel.band(0, 100);
        panel.take(0, 50);
        panel.limit(0, true, 49);
        due.is(0, panel.take(0, 50), "what it has, taken again, is CUT");
        due.is(GAP, panel.shown(0), "though it is within the BAND");
    }

    private static void lowAboveHigh() {
        due.sentence("TAKING with LOW above HIGH, and with LOW at HIGH");
        TripPanel panel = withGauge(false);
        panel.limit(0, false, 10);
        panel.limit(0, true, 9);
        for (int n = 7; n <= 12; n++) {
            due.is(0, panel.take(0, n), "LOW above HIGH cuts " + n);
        }
        panel.limit(0, true, 10);
        due.is(0, panel.take(0, 9), "below both");
        due.is(0, panel.take(0, 11), "above both");
        due.is(2, panel.take(0, 10), "at both");
    }

    private static void steady() {
        due.sentence("STEADY: is not greater than the BAND's value: the gauge keeps w");
        for (boolean narrow : BOTH) {
            TripPanel panel = withGauge(narrow);
            panel.band(0, 500);
            panel.take(0, 1000);
            due.is(1, panel.take(0, 1500), "just the BAND above");
            due.is(1000, panel.shown(0), "it keeps w");
            due.is(1, panel.take(0, 500), "just the BAND below");
            due.is(1000, panel.shown(0), "it keeps w");
            due.is(2, panel.take(0, 1501), "more than the BAND above");
            due.is(2, panel.take(0, 1000), "more than the BAND below");
            due.is(1000, panel.shown(0), "it has v");
        }
    }

    private static void steadyNeedsAValue() {
        due.sentence("STEADY, if the gauge has a value w");
        TripPanel panel = withGauge(true);
        panel.band(0, 1000000);
        due.is(2, panel.take(0, 0), "MOVES as it is made");
        panel.gap(0);
        due.is(2, panel.take(0, 0), "MOVES behind gap()");
        panel.limit(0, true, 5);
        panel.take(0, 6);
        due.is(2, panel.take(0, 0), "MOVES behind a CUT");
        panel.clear(0);
        due.is(1, panel.take(0, 0), "STEADY behind clear(), as what it has stays");
    }

    private static void moves() {
        due.sentence("Else the gauge MOVES: it has v");
        TripPanel panel = withGauge(false);
        due.is(2, panel.take(0, -GREATEST), "to the least number");
        due.is(-GREATEST, panel.shown(0), "shown");
        due.is(2, panel.take(0, GREATEST), "to the greatest number");
        due.is(GREATEST, panel.shown(0), "shown");
        due.is(2, panel.take(0, 0), "to 0");
        due.is(0, panel.shown(0), "shown");
    }

    private static void conditionNumbers() {
        due.sentence("A CONDITION (0 .. 23)");
        TripPanel panel = withGauge(false);
        panel.trip(0, 1);
        for (int c : new int[] {-1, 24, Integer.MIN_VALUE, Integer.MAX_VALUE}) {
            due.is(OUTSIDE, panel.between(c, 5, 0, 0, false), "between, c=" + c);
            due.is(OUTSIDE, panel.level(c, 5, 0, 0, false), "level, c=" + c);
            due.is(MISSING, panel.holds(c), "holds, c=" + c);
            due.is(MISSING, panel.part(0, c), "part, c=" + c);
        }
        for (int c = 0; c <= 23; c++) {
            due.is(MISSING, panel.holds(c), "not yet, c=" + c);
            due.is(1, c % 2 == 0 ? panel.between(c, 5, 0, 0, false) : panel.level(c, 5, 0, 0, false), "defined, c=" + c);
            due.is(1, panel.holds(c), "holds, c=" + c);
        }
    }

    private static void conditionOfItself() {
        due.sentence("a relation between a gauge and a gauge (perhaps itself)");
        TripPanel panel = withGauge(true);
        int[] withValue = {0, 1, 0, 1, 1, 0};
        for (int relation = 0; relation < 6; relation++) {
            due.is(1, panel.between(0, relation, 0, 0, false), "between, relation " + relation);
            due.is(relation == 5 ? 1 : 0, panel.holds(0), "with a GAP, relation " + relation);
            panel.take(0, 5);
            due.is(withValue[relation], panel.holds(0), "with a value, relation " + relation);
            panel.gap(0);
        }
    }

    private static void turned() {
        due.sentence("It HOLDS if they stand in the relation now; if it is TURNED, just if they do not");
        TripPanel panel = withGauges(false, true);
        for (int relation = 0; relation < 6; relation++) {
            panel.between(0, relation, 0, 1, true);
            due.is(relation == 5 ? 0 : 1, panel.holds(0), "two GAPS, turned, relation " + relation);
            panel.level(1, relation, 0, 0, true);
            due.is(relation == 5 ? 0 : 1, panel.holds(1), "a GAP and a LEVEL, turned, relation " + relation);
        }
        panel.between(0, 0, 0, 1, true);
        panel.take(0, 1);
        due.is(1, panel.holds(0), "a GAP on the right is not greater");
        panel.take(1, 2);
        due.is(0, panel.holds(0), "less, turned");
        panel.take(1, 0);
        due.is(1, panel.holds(0), "greater, turned");
    }

    private static void tripNumbers() {
        due.sentence("A TRIP (0 .. 7)");
        TripPanel panel = withGauge(false);
        panel.between(0, 5, 0, 0, false);
        for (int t : new int[] {-1, 8, Integer.MIN_VALUE, Integer.MAX_VALUE}) {
            due.is(OUTSIDE, panel.trip(t, 1), "trip, t=" + t);
            due.is(MISSING, panel.part(t, 0), "part, t=" + t);
            due.is(MISSING, panel.reset(t), "reset, t=" + t);
            due.is(MISSING, panel.votes(t), "votes, t=" + t);
            due.is(MISSING, panel.tripped(t), "tripped, t=" + t);
        }
        for (int t = 0; t <= 7; t++) {
            due.is(MISSING, panel.part(t, 0), "part, not yet, t=" + t);
            due.is(MISSING, panel.reset(t), "reset, not yet, t=" + t);
            due.is(MISSING, panel.votes(t), "votes, not yet, t=" + t);
            due.is(MISSING, panel.tripped(t), "tripped, not yet, t=" + t);
            due.is(1, panel.trip(t, 1), "trip, t=" + t);
            due.is(1, panel.part(t, 0), "part, t=" + t);
            due.is(1, panel.votes(t), "votes, t=" + t);
        }
        due.is(8, panel.scan(), "all eight");
    }

    private static TripPanel withVotes(int votes, int parts) {
        TripPanel panel = withGauge(false);
        panel.between(0, 5, 0, 0, false);
        due.is(1, panel.trip(3, votes), "trip of " + votes);
        for (int part = 1; part <= parts; part++) {
            due.is(part, panel.part(3, 0), "part " + part);
        }
        return panel;
    }

    private static void votesFromOneToSix() {
        due.sentence("VOTES, 1 .. 6");
        TripPanel panel = new TripPanel();
        for (int votes : new int[] {0, 7, -1, Integer.MIN_VALUE, Integer.MAX_VALUE}) {
            due.is(OUTSIDE, panel.trip(0, votes), "trip of " + votes);
        }
        due.is(MISSING, panel.votes(0), "none was made");
        for (int votes = 1; votes <= 6; votes++) {
            due.is(1, withVotes(votes, votes).scan(), "NOW at VOTES " + votes);
            due.is(0, withVotes(votes, votes - 1).scan(), "NOW below VOTES " + votes);
        }
    }

    private static void sixConditions() {
        due.sentence("at most six conditions");
        TripPanel panel = withVotes(6, 6);
        due.is(NONE, panel.part(3, 0), "the seventh");
        due.is(NONE, panel.part(3, 0), "the eighth");
        due.is(6, panel.votes(3), "NOW of six");
        due.is(1, panel.trip(3, 1), "anew");
        due.is(1, panel.part(3, 0), "the first anew");
    }

    private static void severalTimes() {
        due.sentence("of one number perhaps several times; NOW is how many of them hold (each time that it stands there)");
        TripPanel panel = withGauges(false, false);
        panel.level(0, 4, 0, 1, false);
        panel.level(1, 4, 1, 1, false);
        panel.trip(0, 3);
        for (int c : new int[] {0, 1, 0, 1, 1, 0}) {
            panel.part(0, c);
        }
        due.is(0, panel.votes(0), "none holds");
        panel.take(0, 1);
        due.is(3, panel.votes(0), "one that stands there three times");
        due.is(1, panel.scan(), "three votes of one condition");
        panel.take(1, 1);
        due.is(6, panel.votes(0), "both");
    }

    private static void definedAnew() {
        due.sentence("a condition that is defined anew is so in the trips, too");
        TripPanel panel = withGauge(false);
        panel.between(0, 4, 0, 0, false);
        panel.trip(0, 2);
        panel.trip(1, 1);
        panel.part(0, 0);
        panel.part(0, 0);
        panel.part(1, 0);
        due.is(0, panel.scan(), "it does not hold");
        panel.between(0, 4, 0, 0, true);
        due.is(2, panel.votes(0), "anew it holds, both times");
        due.is(1, panel.votes(1), "in the other trip, too");
        due.is(2, panel.scan(), "both are TRIPPED");
        panel.level(0, 0, 0, 0, false);
        due.is(0, panel.votes(0), "anew with a LEVEL it does not hold");
        due.is(1, panel.reset(0), "so the trip can be reset");
    }

    private static void scanNumbers() {
        due.sentence("A SCAN: the next number (1, 2 ..)");
        TripPanel panel = withVotes(1, 1);
        due.is(0, panel.about(1), "no scan yet");
        panel.scan();
        due.is(1, panel.event(0, 1), "the first scan is 1");
        for (int scan = 2; scan <= 400; scan++) {
            panel.scan();
        }
        due.is(400, panel.about(1), "400 scans");
        panel.trip(3, 1);
        panel.part(3, 0);
        panel.scan();
        due.is(401, panel.event(0, 1), "the next one is 401");
        due.is(1, panel.event(1, 1), "the first EVENT keeps its scan");
    }

    private static void stale() {
        due.sentence("Each gauge that has a GAP is STALE by one scan more, each other one by none");
        TripPanel panel = withGauges(false, true);
        panel.take(1, 5);
        for (int scan = 1; scan <= 120; scan++) {
            panel.scan();
            due.is(scan, panel.stale(0), "a GAP at scan " + scan);
            due.is(0, panel.stale(1), "a value at scan " + scan);
        }
        panel.take(0, 5);
        panel.make(2, false);
        due.is(0, panel.stale(2), "a gauge made behind the scans");
        panel.scan();
        due.is(0, panel.stale(0), "by none, as it has a value now");
        due.is(1, panel.stale(2), "by its first scan");
        panel.gap(0);
        panel.scan();
        due.is(1, panel.stale(0), "counted from 0 on again");
    }

    private static void notBelowItsVotes() {
        due.sentence("one that is not TRIPPED and whose NOW is not below its VOTES is TRIPPED");
        for (int votes = 1; votes <= 6; votes++) {
            for (int parts = 0; parts <= 6; parts++) {
                TripPanel panel = withVotes(votes, parts);
                int want = parts >= votes ? 1 : 0;
                due.is(want, panel.scan(), parts + " of " + votes + " votes");
                due.is(want, panel.tripped(3), parts + " of " + votes + " votes");
                due.is(want, panel.about(6), parts + " of " + votes + " votes");
            }
        }
    }

    private static void trippedAlready() {
        due.sentence("one that is not TRIPPED");
        TripPanel panel = withVotes(1, 1);
        due.is(1, panel.scan(), "the first scan");
        due.is(0, panel.scan(), "it is TRIPPED already");
        due.is(1, panel.about(6), "one EVENT");
        due.is(1, panel.event(0, 1), "of the first scan");
        panel.take(0, 0);
        due.is(0, panel.scan(), "it stays TRIPPED though NOW is below");
        due.is(1, panel.tripped(3), "it stays TRIPPED");
    }

    private static void tripsFromZeroOn() {
        due.sentence("Then the trips, from 0 on");
        TripPanel panel = withGauge(false);
        panel.between(0, 5, 0, 0, false);
        for (int t : new int[] {7, 2, 5, 0}) {
            panel.trip(t, 1);
            panel.part(t, 0);
        }
        due.is(4, panel.scan(), "four");
        int[] latestFirst = {7, 5, 2, 0};
        for (int k = 0; k < 4; k++) {
            due.is(latestFirst[k], panel.event(k, 0), "EVENT " + k);
        }
    }

    private static void firstThatHolds() {
        due.sentence("the first of its conditions that holds");
        for (int place = 0; place < 6; place++) {
            TripPanel panel = withGauges(false, false);
            for (int c = 0; c < 6; c++) {
                panel.between(10 + c, c >= place ? 5 : 4, 0, 1, false);
            }
            panel.trip(0, 1);
            panel.between(23, 4, 0, 1, false);
            for (int c = 0; c < 6; c++) {
                panel.part(0, 10 + c);
            }
            panel.scan();
            due.is(10 + place, panel.event(0, 2), "at place " + place);
        }
        TripPanel panel = withGauge(false);
        panel.between(3, 5, 0, 0, false);
        panel.between(9, 5, 0, 0, false);
        panel.trip(0, 1);
        panel.part(0, 9);
        panel.part(0, 3);
        panel.scan();
        due.is(9, panel.event(0, 2), "the first by place, not by number");
    }

    private static void latestTwentyEvents() {
        due.sentence("The latest 20 EVENTS are kept");
        for (int count : new int[] {0, 1, 19, 20, 21, 39, 40, 41, 60}) {
            TripPanel panel = withGauge(false);
            panel.between(0, 5, 0, 0, false);
            panel.between(1, 5, 0, 0, false);
            for (int i = 0; i < count; i++) {
                panel.trip(i % 8, 1);
                panel.part(i % 8, i % 2);
                panel.scan();
            }
            for (int k = 0; k <= 21; k++) {
                int which = count - 1 - k;
                boolean kept = which >= 0 && k < 20;
                due.is(kept ? which % 8 : NONE, panel.event(k, 0), "trip of " + k + " behind " + count);
                due.is(kept ? which + 1 : NONE, panel.event(k, 1), "scan of " + k + " behind " + count);
                due.is(kept ? which % 2 : NONE, panel.event(k, 2), "condition of " + k + " behind " + count);
            }
            due.is(count, panel.about(6), "EVENTS ever");
        }
    }

    private static void firstOfTheseRefusals() {
        due.sentence("REFUSED: -4; -2; the first of these where it isn't told otherwise");
        TripPanel panel = new TripPanel();
        due.is(OUTSIDE, panel.limit(16, true, GREATEST + 1), "limit");
        due.is(OUTSIDE, panel.band(16, -1), "band");
        due.is(OUTSIDE, panel.take(16, -GREATEST - 1), "take");
        due.is(OUTSIDE, panel.stands(16, 6, 16), "stands");
        due.is(OUTSIDE, panel.between(24, 5, 16, 16, false), "between, c");
        due.is(OUTSIDE, panel.between(0, 6, 16, 16, false), "between, the relation");
        due.is(OUTSIDE, panel.level(24, 5, 16, 0, false), "level, c");
        due.is(OUTSIDE, panel.level(0, -1, 16, 0, false), "level, the relation");
        due.is(OUTSIDE, panel.level(0, 5, 16, GREATEST + 1, false), "level, n");
        due.is(OUTSIDE, panel.since(16, 6, 0), "since, the relation");
        due.is(OUTSIDE, panel.since(16, 5, GREATEST + 1), "since, n");
        due.is(OUTSIDE, panel.counted(16, 6, 0), "counted, the relation");
        due.is(OUTSIDE, panel.counted(16, 5, GREATEST + 1), "counted, n");
    }

    private static void fiveHundredAndTwelveCalls() {
        due.sentence("An object is used for at most 512 calls after it has been made");
        TripPanel takes = withGauge(false);
        for (int call = 2; call < 512; call++) {
            due.is(2, takes.take(0, call), "take, call " + call);
        }
        due.is(510, takes.about(2), "the 512th call");
        TripPanel scans = withGauge(false);
        for (int call = 2; call < 512; call++) {
            due.is(0, scans.scan(), "scan, call " + call);
        }
        due.is(510, scans.stale(0), "the 512th call");
    }
}
