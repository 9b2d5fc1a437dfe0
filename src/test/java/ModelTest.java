import java.util.Random;

/** All promises together: runs of 512 calls by seed, each answer compared with that of the plain model. */
public final class ModelTest {
    private static final int RUNS = 4000, CALLS = 512, WRONG_ENOUGH = 20;
    private static final int[] EDGES = {
        0, 1, -1, 100, 101, 200, 300, 400, 700, 1000, 1001, -1000, 16777216, 16777217, 16777219, -16777217,
        999999999, 1000000000, -1000000000, -999999937, 1000000001, -1000000001, TripPanel.GAP, Integer.MIN_VALUE};
    private static final Due due = new Due("ModelTest");

    private final Random random;
    private final TripPanel panel = new TripPanel();
    private final PanelModel model = new PanelModel();
    private final int gauges;
    private final boolean wild;

    private ModelTest(long seed) {
        random = new Random(seed);
        gauges = 1 + random.nextInt(16);
        wild = random.nextInt(4) == 0;
    }

    public static void main(String[] args) {
        for (int run = 0; run < RUNS && due.wrongSoFar() < WRONG_ENOUGH; run++) {
            new ModelTest(run).run(run);
        }
        due.end();
    }

    private void run(int run) {
        for (int call = 0; call < CALLS && due.wrongSoFar() < WRONG_ENOUGH; call++) {
            step("run " + run + ", call " + call + ": ");
        }
    }

    private void step(String where) {
        int kind = random.nextInt(40);
        if (kind < 6) {
            int g = gauge();
            int n = number();
            due.is(model.take(g, n), panel.take(g, n), where + "take(" + g + ", " + n + ")");
        } else if (kind < 12) {
            changeGauge(where, kind - 6);
        } else if (kind < 18) {
            readGauge(where, kind - 12);
        } else if (kind < 24) {
            condition(where, kind - 18);
        } else if (kind < 34) {
            trip(where, kind - 24);
        } else {
            panelWide(where, kind - 34);
        }
    }

    private int gauge() {
        return random.nextInt(20) == 0 ? odd(16) : random.nextInt(gauges);
    }

    private int odd(int bound) {
        int[] odds = {-1, bound, bound + 1, bound - 1, Integer.MIN_VALUE, Integer.MAX_VALUE};
        return odds[random.nextInt(odds.length)];
    }

    private int conditionNumber() {
        return random.nextInt(20) == 0 ? odd(24) : random.nextInt(wild ? 24 : 6);
    }

    private int tripNumber() {
        return random.nextInt(20) == 0 ? odd(8) : random.nextInt(wild ? 8 : 3);
    }

    private int relation() {
        return random.nextInt(25) == 0 ? odd(6) : random.nextInt(6);
    }

    private int number() {
        int kind = random.nextInt(20);
        if (kind < 4) {
            return EDGES[random.nextInt(EDGES.length)];
        }
        if (kind < 6) {
            return 16777200 + random.nextInt(40);
        }
        if (kind < 7) {
            return random.nextInt(2000000001) - 1000000000;
        }
        return (random.nextInt(25) - 8) * (wild ? 1 : 100);
    }

    private void changeGauge(String where, int kind) {
        int g = gauge();
        int n = number();
        boolean flag = random.nextBoolean();
        switch (kind) {
            case 0 -> due.is(model.make(g, flag), panel.make(g, flag), where + "make(" + g + ", " + flag + ")");
            case 1 -> due.is(model.limit(g, flag, n), panel.limit(g, flag, n), where + "limit(" + g + ", " + flag + ", " + n + ")");
            case 2, 3 -> due.is(model.open(g, flag), panel.open(g, flag), where + "open(" + g + ", " + flag + ")");
            case 4 -> {
                int band = random.nextInt(12) == 0 ? odd(1000000) : random.nextInt(5) * 100;
                due.is(model.band(g, band), panel.band(g, band), where + "band(" + g + ", " + band + ")");
            }
            default -> {
                if (random.nextInt(3) == 0) {
                    due.is(model.clear(g), panel.clear(g), where + "clear(" + g + ")");
                } else {
                    due.is(model.gap(g), panel.gap(g), where + "gap(" + g + ")");
                }
            }
        }
    }

    private void readGauge(String where, int kind) {
        int g = gauge();
        int relation = relation();
        int n = number();
        boolean flag = random.nextBoolean();
        switch (kind) {
            case 0 -> due.is(model.shown(g), panel.shown(g), where + "shown(" + g + ")");
            case 1 -> due.is(model.mark(g, flag), panel.mark(g, flag), where + "mark(" + g + ", " + flag + ")");
            case 2 -> due.is(model.stale(g), panel.stale(g), where + "stale(" + g + ")");
            case 3 -> due.is(model.since(g, relation, n), panel.since(g, relation, n), where + "since(" + g + ", " + relation + ", " + n + ")");
            case 4 -> due.is(model.counted(g, relation, n), panel.counted(g, relation, n), where + "counted(" + g + ", " + relation + ", " + n + ")");
            default -> {
                int b = gauge();
                due.is(model.stands(g, relation, b), panel.stands(g, relation, b), where + "stands(" + g + ", " + relation + ", " + b + ")");
            }
        }
    }

    private void condition(String where, int kind) {
        int c = conditionNumber();
        int relation = relation();
        int a = gauge();
        boolean turned = random.nextBoolean();
        if (kind < 2) {
            int b = gauge();
            due.is(model.between(c, relation, a, b, turned), panel.between(c, relation, a, b, turned),
                where + "between(" + c + ", " + relation + ", " + a + ", " + b + ", " + turned + ")");
        } else if (kind < 4) {
            int n = number();
            due.is(model.level(c, relation, a, n, turned), panel.level(c, relation, a, n, turned),
                where + "level(" + c + ", " + relation + ", " + a + ", " + n + ", " + turned + ")");
        } else {
            due.is(model.holds(c), panel.holds(c), where + "holds(" + c + ")");
        }
    }

    private void trip(String where, int kind) {
        int t = tripNumber();
        switch (kind) {
            case 0 -> {
                int votes = random.nextInt(10) == 0 ? odd(7) : 1 + random.nextInt(4);
                due.is(model.trip(t, votes), panel.trip(t, votes), where + "trip(" + t + ", " + votes + ")");
            }
            case 1, 2, 3 -> {
                int c = conditionNumber();
                due.is(model.part(t, c), panel.part(t, c), where + "part(" + t + ", " + c + ")");
            }
            case 4, 5 -> due.is(model.scan(), panel.scan(), where + "scan()");
            case 6, 7 -> due.is(model.reset(t), panel.reset(t), where + "reset(" + t + ")");
            case 8 -> due.is(model.votes(t), panel.votes(t), where + "votes(" + t + ")");
            default -> due.is(model.tripped(t), panel.tripped(t), where + "tripped(" + t + ")");
        }
    }

    private void panelWide(String where, int kind) {
        int k = random.nextInt(24) - 1;
        boolean flag = random.nextBoolean();
        if (kind < 2) {
            due.is(model.order(k), panel.order(k), where + "order(" + k + ")");
        } else if (kind < 3) {
            due.is(model.extreme(flag), panel.extreme(flag), where + "extreme(" + flag + ")");
        } else if (kind < 5) {
            int what = random.nextInt(5) - 1;
            due.is(model.event(k, what), panel.event(k, what), where + "event(" + k + ", " + what + ")");
        } else {
            int what = random.nextInt(9) - 1;
            due.is(model.about(what), panel.about(what), where + "about(" + what + ")");
        }
    }
}
