import java.util.NoSuchElementException;

/** Counts the answers of one test that are not the ones that are due. */
final class Due {
    private static final int MOST_SHOWN = 10;
    private static final long MOST_SECONDS = 300;

    private final String test;
    private int looked = 0;
    private int wrong = 0;
    private int shown = 0;
    private String sentence = "";
    private int lookedBefore = -1;

    Due(String test) {
        this.test = test;
        Thread watch = new Thread(this::endLate);
        watch.setDaemon(true);
        watch.start();
    }

    /** A call that never ends is wrong too, and must not keep .ci/run from saying so. */
    private void endLate() {
        try {
            Thread.sleep(1000 * MOST_SECONDS);
        } catch (InterruptedException e) {
            return;
        }
        System.out.println(test + sentence + ": not at its end after " + MOST_SECONDS + " seconds");
        Runtime.getRuntime().halt(1);
    }

    /** From here on it is this sentence of the document that answers are held to. */
    void sentence(String text) {
        endSentence();
        sentence = " [" + text + "]";
        lookedBefore = looked;
        shown = 0;
    }

    /** A sentence for which nothing was looked at would have no test. */
    private void endSentence() {
        if (looked == lookedBefore) {
            wrong++;
            System.out.println(test + sentence + ": nothing was looked at");
        }
    }

    void is(String call, long got, long want) {
        looked++;
        if (got != want) {
            wrong++;
            shown++;
            if (shown <= MOST_SHOWN) {
                System.out.println(test + sentence + ": " + call + " answered " + got + ", due is " + want);
            }
        }
    }

    void is(String call, boolean got, boolean want) {
        is(call, got ? 1 : 0, want ? 1 : 0);
    }

    void clockThrows(PipeWorks x, int n, Class<? extends RuntimeException> want) {
        try {
            is("clock(" + n + ") answered, due is " + want.getName(), x.clock(n), Long.MIN_VALUE);
        } catch (IllegalArgumentException | IllegalStateException e) {
            is("clock(" + n + ") threw " + e.getClass().getName(), e.getClass() == want, true);
        }
    }

    void registerThrows(PipeWorks x, int k) {
        try {
            is("register(" + k + ") answered, due is a throw", x.register(k), Long.MIN_VALUE);
        } catch (NoSuchElementException e) {
            looked++;
        }
    }

    void memoryThrows(PipeWorks x, int k) {
        try {
            is("memory(" + k + ") answered, due is a throw", x.memory(k), Long.MIN_VALUE);
        } catch (NoSuchElementException e) {
            looked++;
        }
    }

    void state(String when, PipeWorks x, int... want) {
        for (int what = 0; what < want.length; what++) {
            is(when + ": state(" + what + ")", x.state(what), want[what]);
        }
    }

    /** Ends the test: exit code 1 if one answer was wrong. */
    void end() {
        endSentence();
        System.out.println(test + ": " + looked + " answers looked at, " + wrong + " wrong");
        if (wrong != 0 || looked == 0) {
            System.exit(1);
        }
    }
}
