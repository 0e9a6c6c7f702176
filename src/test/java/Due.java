import java.util.NoSuchElementException;

/** Counts the answers of one test that are not the ones that are due. */
final class Due {
    private final String test;
    private int looked = 0;
    private int wrong = 0;

    Due(String test) {
        this.test = test;
    }

    void is(String call, long got, long want) {
        looked++;
        if (got != want) {
            wrong++;
            if (wrong <= 20) {
                System.out.println(test + ": " + call + " answered " + got + ", due is " + want);
            }
        }
    }

    void is(String call, boolean got, boolean want) {
        is(call, got ? 1 : 0, want ? 1 : 0);
    }

    void clockThrows(PipeWorks x, int n, Class<? extends RuntimeException> want) {
        try {
            is("clock(" + n + ") answered, due is " + want.getName(), x.clock(n), Long.MIN_VALUE);
        } catch (IllegalArgumentException | IllegalStateException e) {
            is("clock(" + n + ") threw " + e.getClass().getName(), e.getClass() == want, true);
        }
    }

    void registerThrows(PipeWorks x, int k) {
        try {
            is("register(" + k + ") answered, due is a throw", x.register(k), Long.MIN_VALUE);
        } catch (NoSuchElementException e) {
            looked++;
        }
    }

    void memoryThrows(PipeWorks x, int k) {
        try {
            is("memory(" + k + ") answered, due is a throw", x.memory(k), Long.MIN_VALUE);
        } catch (NoSuchElementException e) {
            looked++;
        }
    }

    void state(String when, PipeWorks x, int... want) {
        for (int what = 0; what < want.length; what++) {
            is(when + ": state(" + what + ")", x.state(what), want[what]);
        }
    }

    /** Ends the test: exit code 1 if one answer was wrong. */
    void end() {
        System.out.println(test + ": " + looked + " answers looked at, " + wrong + " wrong");
        if (wrong != 0 || looked == 0) {
            System.exit(1);
        }
    }
}
