import java.math.BigDecimal;
import java.util.Random;

/** Terms: the VALUE of a number, the relations between values, and the BAND, at the edges of floats and doubles. */
public final class ValueTest {
    private static final int GREATEST = 1000000000;
    private static final int[] EDGES = {
        0, 1, 2, 3, 7, 100, 500, 700, 999, 1000, 1001, 16777215, 16777216, 16777217, 16777218, 16777219, 16777220, 16777221,
        33554431, 33554434, 33554438, 999999935, 999999936, 999999967, 999999968, 999999969, 999999999, GREATEST};
    private static final int[] STEPS = {0, 1, -1, 2, -2, 3, 4, -5, 15, 31, -32, 33, -63, 64, 65};
    private static final Due due = new Due("ValueTest");

    public static void main(String[] args) {
        floatsAreTheNearestToEven();
        divisionIsRoundedLikewise();
        valuesStandAsNumbersDo();
        bandIsMeasuredAsTheGaugeMeasures();
        bandAtItsEdges();
        limitsAtTheirEdges();
        due.end();
    }

    private static TripPanel pair(boolean narrow, int n, boolean otherNarrow, int m) {
        TripPanel panel = new TripPanel();
        panel.make(0, narrow);
        panel.make(1, otherNarrow);
        panel.take(0, n);
        panel.take(1, m);
        return panel;
    }

    private static void same(boolean want, int n, int m) {
        TripPanel panel = pair(true, n, true, m);
        due.is(want ? 1 : 0, panel.stands(0, 4, 1), "narrow " + n + " the same as " + m);
        due.is(want ? 0 : 1, panel.stands(0, 5, 1), "narrow " + n + " unlike " + m);
    }

    private static void floatsAreTheNearestToEven() {
        due.sentence("Terms: n as a float (the nearest, to even)");
        for (int sign = -1; sign <= 1; sign += 2) {
            same(true, sign * 16777217, sign * 16777216);
            same(true, sign * 16777219, sign * 16777220);
            same(true, sign * 999999968, sign * GREATEST);
            same(true, sign * 999999969, sign * GREATEST);
            same(true, sign * 999999967, sign * 999999936);
            same(false, sign * 999999967, sign * 999999968);
            same(false, sign * 999999936, sign * GREATEST);
            same(false, sign * 16777215, sign * 16777218);
        }
        same(false, GREATEST, -GREATEST);
        same(false, 1, -1);
    }

    private static void divisionIsRoundedLikewise() {
        due.sentence("Terms: divided by 1000 as floats (rounded likewise)");
        TripPanel above = pair(true, 100, false, 100);
        due.is(1, above.stands(0, 2, 1), "0.1 as a float is greater than as a double");
        TripPanel below = pair(true, 700, false, 700);
        due.is(1, below.stands(0, 0, 1), "0.7 as a float is less than as a double");
        TripPanel just = pair(true, 625, false, 625);
        due.is(1, just.stands(0, 4, 1), "0.625 is the same in both");
        TripPanel zero = pair(true, 0, false, 0);
        due.is(1, zero.stands(0, 4, 1), "0 is the same in both");
    }

    private static void valuesStandAsNumbersDo() {
        due.sentence("Terms: Values stand in them as numbers do (two of narrow gauges as floats; one of a narrow and one "
            + "of a wide gauge as doubles, the float being just itself)");
        Random random = new Random(1);
        for (int i = 0; i < 1500; i++) {
            int n = i < EDGES.length ? EDGES[i] : number(random);
            for (int step : STEPS) {
                int m = Math.max(-GREATEST, Math.min(GREATEST, n + step));
                standsAsExact(random.nextInt(4), n, m);
                standsAsExact(random.nextInt(4), -n, -m);
            }
        }
    }

    private static int number(Random random) {
        int bound = 1 << (4 + random.nextInt(27));
        return Math.min(GREATEST, random.nextInt(bound)) * (random.nextBoolean() ? 1 : -1);
    }

    private static void standsAsExact(int kinds, int n, int m) {
        boolean narrow = (kinds & 1) != 0;
        boolean otherNarrow = (kinds & 2) != 0;
        int sign = ExactValue.of(n, narrow).compareTo(ExactValue.of(m, otherNarrow));
        boolean[] want = {sign < 0, sign <= 0, sign > 0, sign >= 0, sign == 0, sign != 0};
        TripPanel panel = pair(narrow, n, otherNarrow, m);
        for (int relation = 0; relation < 6; relation++) {
            due.is(want[relation] ? 1 : 0, panel.stands(0, relation, 1),
                (narrow ? "narrow " : "wide ") + n + " in " + relation + " to " + (otherNarrow ? "narrow " : "wide ") + m);
        }
    }

    private static void bandIsMeasuredAsTheGaugeMeasures() {
        due.sentence("Terms: the greater one of v and w, less the other one (in doubles; for a narrow gauge in floats), is "
            + "not greater than the BAND's value");
        Random random = new Random(2);
        for (int i = 0; i < 20000; i++) {
            int w = number(random);
            int band = random.nextInt(1 << (1 + random.nextInt(19)));
            int near = random.nextInt(5) == 0 ? random.nextInt(129) - 64 : random.nextInt(3) - 1;
            int v = w + (random.nextBoolean() ? band + near : -band - near);
            if (Math.abs((long) v) <= GREATEST) {
                steadyAsExact(i % 2 == 0, w, v, band);
            }
        }
    }

    private static void steadyAsExact(boolean narrow, int w, int v, int band) {
        BigDecimal apart = ExactValue.apart(ExactValue.of(v, narrow), ExactValue.of(w, narrow), narrow);
        boolean steady = apart.compareTo(ExactValue.of(band, narrow)) <= 0;
        String what = (narrow ? "narrow " : "wide ") + w + " to " + v + " with BAND " + band;
        taken(steady ? 1 : 2, narrow, w, v, band, what);
    }

    private static void taken(int want, boolean narrow, int w, int v, int band, String what) {
        TripPanel panel = new TripPanel();
        panel.make(5, narrow);
        panel.band(5, band);
        panel.take(5, w);
        due.is(want, panel.take(5, v), what);
        due.is(want == 1 ? w : v, panel.shown(5), what + ", shown");
    }

    private static void bandAtItsEdges() {
        due.sentence("Terms: a BAND, a number 0 .. 1000000");
        for (boolean narrow : new boolean[] {false, true}) {
            taken(1, narrow, 0, 1000000, 1000000, "just the greatest BAND above");
            taken(1, narrow, 0, -1000000, 1000000, "just the greatest BAND below");
            taken(2, narrow, 0, 1000001, 1000000, "beyond the greatest BAND above");
            taken(2, narrow, 0, -1000001, 1000000, "beyond the greatest BAND below");
            taken(1, narrow, 5, 5, 0, "the same within BAND 0");
            taken(2, narrow, 5, 6, 0, "another one beyond BAND 0");
            taken(2, narrow, -GREATEST, GREATEST, 1000000, "from the least to the greatest number");
            taken(2, narrow, GREATEST, -GREATEST, 1000000, "from the greatest to the least number");
        }
        taken(2, false, 100, 400, 300, "0.4 less 0.1 is more than 0.3 as doubles");
        taken(1, true, 999999968, GREATEST, 0, "one float within BAND 0");
        taken(2, false, 999999999, GREATEST, 0, "two doubles beyond BAND 0");
    }

    private static void limitsAtTheirEdges() {
        due.sentence("Terms: it is CUT if v is less than LOW or greater than HIGH");
        Random random = new Random(3);
        for (int i = 0; i < 4000; i++) {
            int limit = i < EDGES.length ? EDGES[i] : number(random);
            int n = Math.max(-GREATEST, Math.min(GREATEST, limit + STEPS[i % STEPS.length]));
            boolean narrow = random.nextBoolean();
            int sign = ExactValue.of(n, narrow).compareTo(ExactValue.of(limit, narrow));
            cut(sign > 0, narrow, true, limit, n);
            cut(sign < 0, narrow, false, limit, n);
        }
    }

    private static void cut(boolean want, boolean narrow, boolean high, int limit, int n) {
        TripPanel panel = new TripPanel();
        panel.make(15, narrow);
        panel.limit(15, high, limit);
        String what = (narrow ? "narrow " : "wide ") + n + (high ? " with HIGH " : " with LOW ") + limit;
        due.is(want ? 0 : 2, panel.take(15, n), what);
        due.is(want ? TripPanel.GAP : n, panel.shown(15), what + ", shown");
    }
}
