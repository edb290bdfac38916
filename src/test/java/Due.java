/** Holds answers against those that are due, and ends a test's run. */
final class Due {
    private final String test;
    private String sentence = "";
    private int sentences;
    private int looked;
    private int lookedAheadOfSentence;
    private int wrong;

    Due(String test) {
        this.test = test;
    }

    /** What is looked at from here on is what these words of the document ask. */
    void sentence(String words) {
        endSentence();
        sentence = words;
        sentences++;
    }

    /** A sentence for which nothing was looked at has no test. */
    private void endSentence() {
        if (!sentence.isEmpty() && looked == lookedAheadOfSentence) {
            wrong++;
            System.out.println(test + ": nothing was looked at for '" + sentence + "'");
        }
        lookedAheadOfSentence = looked;
    }

    private void tell(String what) {
        wrong++;
        System.out.println(test + ": " + (sentence.isEmpty() ? "" : "'" + sentence + "': ") + what);
    }

    void is(String call, int got, int want) {
        looked++;
        if (got != want) {
            tell(call + " answered " + got + ", due is " + want);
        }
    }

    /** What THREADS 0, 1, .. are. */
    void states(MonitorTurns x, int... want) {
        for (int t = 0; t < want.length; t++) {
            is("told(" + t + ", 0)", x.told(t, 0), want[t]);
        }
    }

    /** Which THREAD is in a THING, with which DEPTH. */
    void in(MonitorTurns x, int thing, int thread, int depth) {
        is("of(" + thing + ", 2)", x.of(thing, 2), thread);
        is("of(" + thing + ", 3)", x.of(thing, 3), depth);
    }

    void holds(String what, boolean holds) {
        looked++;
        if (!holds) {
            tell("does not hold: " + what);
        }
    }

    /** A test that looked at nothing is no test. */
    void close() {
        endSentence();
        System.out.println(test + ": " + looked + " looked at"
                + (sentences == 0 ? "" : " for " + sentences + " sentences") + ", " + wrong + " wrong");
        if (wrong != 0 || looked == 0) {
            System.exit(1);
        }
    }
}
