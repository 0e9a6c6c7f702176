/** Promises 5, 6 and 9: reset, clock with its limits, state. */
final class RunTest {
    private static final Due due = new Due("RunTest");

    public static void main(String[] args) {
        wrongClocks();
        limitInAll();
        limitBehindResets();
        chunksDoNotMatter();
        resetInFlight();
        resetBehindAHalt();
        resetTwice();
        wrongWhats();
        due.end();
    }

    private static void wrongClocks() {
        PipeWorks x = Asm.with(Asm.addi(1, 1, 1), Asm.jump(0, -4));
        x.clock(5);
        for (int n : new int[] {0, -1, 201, 20001, Integer.MIN_VALUE, Integer.MAX_VALUE}) {
            due.clockThrows(x, n, IllegalArgumentException.class);
        }
        due.state("behind wrong clocks", x, 5, 1, 0, 0, 0, 5);
        due.is("clock(1)", x.clock(1), 2);
        due.is("clock(200)", x.clock(200), 102);
    }

    private static void limitInAll() {
        PipeWorks x = Asm.with(Asm.addi(1, 1, 1), Asm.jump(0, -4));
        for (int i = 0; i < 99; i++) {
            x.clock(200);
        }
        x.clock(199);
        due.clockThrows(x, 2, IllegalStateException.class);
        due.clockThrows(x, 200, IllegalStateException.class);
        int before = x.register(1);
        due.state("one clock left", x, 19999, x.state(1), 0, 0, x.state(4), 19999);
        due.is("register behind a refused clock", x.register(1), before);
        // DONE in clocks 5, 9, .. 19997 is the sum, in 6, 10, .. 19998 the jump.
        due.is("the last clock", x.clock(1), 9998);
        due.clockThrows(x, 1, IllegalStateException.class);
        due.clockThrows(x, 0, IllegalArgumentException.class);
        due.clockThrows(x, 201, IllegalArgumentException.class);
        due.is("clocks in all", x.state(5), 20000);
    }

    private static void limitBehindResets() {
        PipeWorks x = Asm.with(Asm.CALL);
        for (int i = 0; i < 100; i++) {
            due.is("clock(200)", x.clock(200), 0);
            x.reset();
            // Not each time: an object's answers are promised for 512 calls alone.
            if (i % 10 == 9) {
                due.state("behind reset", x, 0, 0, 0, 0, -1, (i + 1) * 200);
            }
        }
        due.clockThrows(x, 1, IllegalStateException.class);
        due.state("none left", x, 0, 0, 0, 0, -1, 20000);
        due.is("no clock was", x.set(1, 3), true);
        due.is("register(1)", x.register(1), 3);
    }

    private static void chunksDoNotMatter() {
        for (int chunk = 1; chunk <= 9; chunk++) {
            PipeWorks x = Asm.with(Asm.addi(1, 1, 1), Asm.store(2, 1, 0, 8), Asm.load(2, 2, 0, 8),
                    Asm.op(0, 3, 3, 2), Asm.jump(4, -16));
            PipeWorks y = Asm.with(Asm.addi(1, 1, 1), Asm.store(2, 1, 0, 8), Asm.load(2, 2, 0, 8),
                    Asm.op(0, 3, 3, 2), Asm.jump(4, -16));
            for (int i = 0; i < 10; i++) {
                x.clock(chunk);
            }
            y.clock(10 * chunk);
            for (int what = 0; what < 6; what++) {
                due.is("chunks of " + chunk + ", state " + what, x.state(what), y.state(what));
            }
            for (int k = 0; k < 5; k++) {
                due.is("chunks of " + chunk + ", register " + k, x.register(k), y.register(k));
            }
            due.is("chunks of " + chunk + ", memory", x.memory(2), y.memory(2));
        }
    }

    /** What has come to registers and memory stays, what has not never comes. */
    private static void resetInFlight() {
        PipeWorks x = Asm.with(Asm.addi(1, 1, 1), Asm.store(2, 1, 0, 4), Asm.addi(2, 0, 9), Asm.CALL);
        due.is("clock(5)", x.clock(5), 1);
        due.state("in flight", x, 5, 1, 0, 0, 0, 5);
        due.is("register(1)", x.register(1), 1);
        due.is("memory(1)", x.memory(1), 1);
        x.reset();
        due.state("reset", x, 0, 0, 0, 0, -1, 5);
        due.is("register(1) stays", x.register(1), 1);
        due.is("memory(1) stays", x.memory(1), 1);
        due.is("word(0)", x.word(0, Asm.NOP), true);
        due.is("word(1)", x.word(1, Asm.NOP), true);
        due.is("clock(4)", x.clock(4), 0);
        due.state("again", x, 4, 0, 0, 0, -1, 9);
        due.is("register(2)", x.register(2), 0);
        due.is("clock(3)", x.clock(3), 3);
        due.is("register(2)", x.register(2), 9);
        due.state("before the HALT", x, 7, 3, 0, 0, 8, 12);
        due.is("clock(1)", x.clock(1), 3);
        due.state("HALT", x, 8, 3, 1, 12, 8, 13);
        due.is("register(1) stayed", x.register(1), 1);
        x.reset();
        x.word(0, Asm.addi(5, 0, 5));
        x.clock(4);
        x.reset();
        x.word(0, Asm.NOP);
        x.clock(9);
        due.is("what was in MEMORY at reset never comes", x.register(5), 0);
    }

    private static void resetBehindAHalt() {
        PipeWorks x = Asm.with(Asm.addi(1, 1, 3), Asm.store(0, 1, 0, 255), Asm.BREAK);
        due.is("clock(50)", x.clock(50), 2);
        due.state("HALT", x, 50, 2, 2, 8, 4, 50);
        x.reset();
        due.state("reset", x, 0, 0, 0, 0, -1, 50);
        due.is("clock(7)", x.clock(7), 2);
        due.state("second HALT", x, 7, 2, 2, 8, 4, 57);
        due.is("register(1)", x.register(1), 6);
        due.is("memory(63)", x.memory(63), 6 << 24);
    }

    private static void resetTwice() {
        PipeWorks x = Asm.with(Asm.addi(1, 1, 3), Asm.CALL);
        x.reset();
        x.reset();
        due.state("reset twice", x, 0, 0, 0, 0, -1, 0);
        due.is("clock(5)", x.clock(5), 1);
        due.is("register(1)", x.register(1), 3);
    }

    private static void wrongWhats() {
        PipeWorks x = Asm.with(Asm.addi(1, 1, 3), Asm.CALL);
        x.clock(6);
        for (int what : new int[] {-1, 6, 7, 100, Integer.MIN_VALUE, Integer.MAX_VALUE}) {
            due.is("state(" + what + ")", x.state(what), PipeWorks.NONE);
        }
        due.state("behind them", x, 6, 1, 1, 4, 0, 6);
    }
}
