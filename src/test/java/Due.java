/** Compares answers with those that are due, and ends a test's main method. */
final class Due {
    private final String test;
    private int asked = 0;
    private int wrong = 0;

    Due(String test) {
        this.test = test;
    }

    void is(int want, int got, String what) {
        asked++;
        if (got != want) {
            wrong++;
            System.out.println(test + ": " + what + " answered " + got + ", due is " + want);
        }
    }

    void holds(boolean fact, String what) {
        asked++;
        if (!fact) {
            wrong++;
            System.out.println(test + ": not so: " + what);
        }
    }

    int wrongSoFar() {
        return wrong;
    }

    void end() {
        System.out.println(test + ": " + asked + " asked, " + wrong + " wrong");
        if (wrong != 0) {
            System.exit(1);
        }
    }
}
