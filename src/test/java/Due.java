/** Compares answers with those that are due, and ends a test's main method. */
final class Due {
    private final String test;
    private String sentence = "";
    private int sentences = 0;
    private int asked = 0;
    private int wrong = 0;

    Due(String test) {
        this.test = test;
    }

    /** What is asked from here on belongs to this sentence of the document. */
    void sentence(String words) {
        sentence = "[" + words + "] ";
        sentences++;
    }

    void is(int want, int got, String what) {
        asked++;
        if (got != want) {
            wrong++;
            System.out.println(test + ": " + sentence + what + " answered " + got + ", due is " + want);
        }
    }

    void holds(boolean fact, String what) {
        asked++;
        if (!fact) {
            wrong++;
            System.out.println(test + ": " + sentence + "not so: " + what);
        }
    }

    int wrongSoFar() {
        return wrong;
    }

    void end() {
        String of = sentences == 0 ? "" : " of " + sentences + " sentences";
        System.out.println(test + ": " + asked + " asked" + of + ", " + wrong + " wrong");
        if (wrong != 0) {
            System.exit(1);
        }
    }
}
