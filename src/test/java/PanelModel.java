import java.math.BigDecimal;
import java.util.ArrayList;
import java.util.Comparator;
import java.util.List;
import java.util.Map;
import java.util.TreeMap;
import java.util.function.BooleanSupplier;

/**
 * The document once more, written as another would: exact decimals, maps and lists without bounds, null for a GAP.
 * It exists to disagree with TripPanel where one of the two errs.
 */
final class PanelModel {
    private record Reading(int number, BigDecimal value) {
    }

    private static final class Dial {
        boolean narrow;
        Reading now;
        Reading low;
        Reading high;
        int band;
        int stale;
        final List<Reading> moves = new ArrayList<>();
        final List<Reading> history = new ArrayList<>();

        Reading read(int n) {
            return new Reading(n, narrow ? new BigDecimal((double) ((float) n / 1000f)) : new BigDecimal(n / 1000.0));
        }

        BigDecimal apart(Reading a, Reading b) {
            // The exact difference, rounded once, is what a float or double subtraction gives.
            BigDecimal exact = a.value().subtract(b.value()).abs();
            return narrow ? new BigDecimal((double) exact.floatValue()) : new BigDecimal(exact.doubleValue());
        }

        List<Reading> latestTwelve() {
            List<Reading> latest = new ArrayList<>();
            for (int i = history.size() - 1; i >= 0 && latest.size() < 12; i--) {
                latest.add(history.get(i));
            }
            return latest;
        }
    }

    private static final class Vote {
        final int needed;
        final List<Integer> conditions = new ArrayList<>();
        boolean tripped;

        Vote(int needed) {
            this.needed = needed;
        }
    }

    private final Map<Integer, Dial> dials = new TreeMap<>();
    private final Map<Integer, BooleanSupplier> conditions = new TreeMap<>();
    private final Map<Integer, Vote> votes = new TreeMap<>();
    private final List<int[]> events = new ArrayList<>();
    private final int[] takings = new int[3];
    private int scans;

    private static boolean number(int n) {
        return Math.abs((long) n) <= 1000000000L;
    }

    private static boolean in(int x, int from, int to) {
        return from <= x && x <= to;
    }

    private static boolean related(Reading a, int relation, Reading b) {
        if (a == null || b == null) {
            return relation == 5;
        }
        int sign = a.value().compareTo(b.value());
        return switch (relation) {
            case 0 -> sign < 0;
            case 1 -> sign <= 0;
            case 2 -> sign > 0;
            case 3 -> sign >= 0;
            case 4 -> sign == 0;
            default -> sign != 0;
        };
    }

    int make(int g, boolean narrow) {
        if (!in(g, 0, 15)) {
            return -4;
        }
        if (dials.containsKey(g)) {
            return 0;
        }
        Dial dial = new Dial();
        dial.narrow = narrow;
        dials.put(g, dial);
        return 1;
    }

    int limit(int g, boolean high, int n) {
        if (!number(n)) {
            return -4;
        }
        Dial dial = dials.get(g);
        if (dial == null) {
            return -2;
        }
        if (high) {
            dial.high = dial.read(n);
        } else {
            dial.low = dial.read(n);
        }
        return 1;
    }

    int open(int g, boolean high) {
        Dial dial = dials.get(g);
        if (dial == null) {
            return -2;
        }
        Reading old = high ? dial.high : dial.low;
        if (high) {
            dial.high = null;
        } else {
            dial.low = null;
        }
        return old == null ? 0 : 1;
    }

    int band(int g, int n) {
        if (!in(n, 0, 1000000)) {
            return -4;
        }
        if (!dials.containsKey(g)) {
            return -2;
        }
        dials.get(g).band = n;
        return 1;
    }

    int take(int g, int n) {
        if (!number(n)) {
            return -4;
        }
        Dial dial = dials.get(g);
        if (dial == null) {
            return -2;
        }
        Reading next = dial.read(n);
        int kind;
        if (dial.low != null && next.value().compareTo(dial.low.value()) < 0
            || dial.high != null && next.value().compareTo(dial.high.value()) > 0) {
            kind = 0;
            dial.now = null;
        } else if (dial.now != null && dial.apart(next, dial.now).compareTo(dial.read(dial.band).value()) <= 0) {
            kind = 1;
        } else {
            kind = 2;
            dial.now = next;
            dial.moves.add(next);
        }
        dial.history.add(dial.now);
        takings[kind]++;
        return kind;
    }

    int gap(int g) {
        Dial dial = dials.get(g);
        if (dial == null) {
            return -2;
        }
        int had = dial.now == null ? 0 : 1;
        dial.now = null;
        dial.history.add(null);
        return had;
    }

    int clear(int g) {
        Dial dial = dials.get(g);
        if (dial == null) {
            return -2;
        }
        dial.moves.clear();
        dial.history.clear();
        return 1;
    }

    int shown(int g) {
        Dial dial = dials.get(g);
        return dial == null || dial.now == null ? 2000000000 : dial.now.number();
    }

    int mark(int g, boolean greatest) {
        Dial dial = dials.get(g);
        if (dial == null || dial.moves.isEmpty()) {
            return 2000000000;
        }
        List<Reading> sorted = new ArrayList<>(dial.moves);
        Comparator<Reading> byValue = Comparator.comparing(Reading::value);
        sorted.sort(greatest ? byValue.reversed() : byValue);
        return sorted.get(0).number();
    }

    int stale(int g) {
        return dials.containsKey(g) ? dials.get(g).stale : -2;
    }

    int stands(int a, int relation, int b) {
        if (!in(relation, 0, 5)) {
            return -4;
        }
        if (!dials.containsKey(a) || !dials.containsKey(b)) {
            return -2;
        }
        return related(dials.get(a).now, relation, dials.get(b).now) ? 1 : 0;
    }

    int between(int c, int relation, int a, int b, boolean turned) {
        if (!in(c, 0, 23) || !in(relation, 0, 5)) {
            return -4;
        }
        if (!dials.containsKey(a) || !dials.containsKey(b)) {
            return -2;
        }
        conditions.put(c, () -> turned ^ related(dials.get(a).now, relation, dials.get(b).now));
        return 1;
    }

    int level(int c, int relation, int a, int n, boolean turned) {
        if (!in(c, 0, 23) || !in(relation, 0, 5) || !number(n)) {
            return -4;
        }
        if (!dials.containsKey(a)) {
            return -2;
        }
        Reading level = dials.get(a).read(n);
        conditions.put(c, () -> turned ^ related(dials.get(a).now, relation, level));
        return 1;
    }

    int holds(int c) {
        BooleanSupplier condition = conditions.get(c);
        return condition == null ? -2 : condition.getAsBoolean() ? 1 : 0;
    }

    int trip(int t, int needed) {
        if (!in(t, 0, 7) || !in(needed, 1, 6)) {
            return -4;
        }
        votes.put(t, new Vote(needed));
        return 1;
    }

    int part(int t, int c) {
        if (!votes.containsKey(t) || !conditions.containsKey(c)) {
            return -2;
        }
        List<Integer> list = votes.get(t).conditions;
        if (list.size() == 6) {
            return -1;
        }
        list.add(c);
        return list.size();
    }

    private List<Integer> holding(Vote vote) {
        List<Integer> list = new ArrayList<>(vote.conditions);
        list.removeIf(c -> !conditions.get(c).getAsBoolean());
        return list;
    }

    int scan() {
        scans++;
        dials.values().forEach(dial -> dial.stale = dial.now == null ? dial.stale + 1 : 0);
        int before = events.size();
        votes.forEach((t, vote) -> {
            List<Integer> list = holding(vote);
            if (!vote.tripped && list.size() >= vote.needed) {
                vote.tripped = true;
                events.add(new int[] {t, scans, list.get(0)});
            }
        });
        return events.size() - before;
    }

    int reset(int t) {
        Vote vote = votes.get(t);
        if (vote == null) {
            return -2;
        }
        if (holding(vote).size() >= vote.needed) {
            return -5;
        }
        int was = vote.tripped ? 1 : 0;
        vote.tripped = false;
        return was;
    }

    int votes(int t) {
        return votes.containsKey(t) ? holding(votes.get(t)).size() : -2;
    }

    int tripped(int t) {
        return votes.containsKey(t) ? (votes.get(t).tripped ? 1 : 0) : -2;
    }

    private List<Integer> ordered() {
        List<Integer> valued = new ArrayList<>();
        List<Integer> gaps = new ArrayList<>();
        dials.forEach((g, dial) -> (dial.now == null ? gaps : valued).add(g));
        valued.sort((a, b) -> dials.get(b).now.value().compareTo(dials.get(a).now.value()));
        valued.addAll(gaps);
        return valued;
    }

    int order(int k) {
        List<Integer> list = ordered();
        return in(k, 0, list.size() - 1) ? list.get(k) : -1;
    }

    int extreme(boolean greatest) {
        List<Integer> valued = new ArrayList<>(dials.keySet());
        valued.removeIf(g -> dials.get(g).now == null);
        Comparator<Integer> byValue = Comparator.comparing(g -> dials.get(g).now.value());
        valued.sort(greatest ? byValue.reversed() : byValue);
        return valued.isEmpty() ? -1 : valued.get(0);
    }

    int since(int g, int relation, int n) {
        if (!in(relation, 0, 5) || !number(n)) {
            return -4;
        }
        Dial dial = dials.get(g);
        if (dial == null) {
            return -2;
        }
        Reading level = dial.read(n);
        return (int) dial.latestTwelve().stream().takeWhile(one -> !related(one, relation, level)).count();
    }

    int counted(int g, int relation, int n) {
        if (!in(relation, 0, 5) || !number(n)) {
            return -4;
        }
        Dial dial = dials.get(g);
        if (dial == null) {
            return -2;
        }
        Reading level = dial.read(n);
        return (int) dial.latestTwelve().stream().filter(one -> related(one, relation, level)).count();
    }

    int event(int k, int what) {
        if (!in(k, 0, Math.min(events.size(), 20) - 1) || !in(what, 0, 2)) {
            return -1;
        }
        return events.get(events.size() - 1 - k)[what];
    }

    int about(int what) {
        return switch (what) {
            case 0 -> dials.size();
            case 1 -> scans;
            case 2 -> takings[2];
            case 3 -> takings[1];
            case 4 -> takings[0];
            case 5 -> (int) votes.values().stream().filter(vote -> vote.tripped).count();
            case 6 -> events.size();
            default -> -1;
        };
    }
}
