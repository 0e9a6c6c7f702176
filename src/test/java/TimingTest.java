/** The terms' CLOCKS: how far behind one another words are, and when what they do is there. */
final class TimingTest {
    private static final Due due = new Due("TimingTest");

    public static void main(String[] args) {
        storesBeforeWrites();
        resultsGoOn();
        waitsForLoads();
        waitsForNothingElse();
        illegalOnesDoNotWait();
        jumpsCostTwo();
        loadThenLoad();
        due.end();
    }

    /** w stands at 4 behind a word at 0 that is DONE in clock 5: w is DONE or HALTS lag clocks later. */
    private static void lag(String what, int before, int w, int lag) {
        PipeWorks x = Asm.with(before, w, Asm.CALL);
        x.data(0, 4);
        x.set(6, 4);
        x.clock(5 + lag - 1);
        due.is(what + ": one DONE", x.state(1), 1);
        due.is(what + ": no HALT", x.state(2), 0);
        x.clock(1);
        due.is(what + ": DONE or HALT", x.state(1) == 2 || x.state(2) != 0, true);
    }

    private static void storesBeforeWrites() {
        PipeWorks x = Asm.with(Asm.store(2, 1, 0, 0), Asm.load(2, 2, 0, 0), Asm.CALL);
        x.set(1, 42);
        for (int i = 1; i <= 8; i++) {
            due.is("clock", x.clock(1), i < 5 ? 0 : i < 6 ? 1 : 2);
            due.is("clock " + i + ": memory(0)", x.memory(0), i < 4 ? 0 : 42);
            due.is("clock " + i + ": x2", x.register(2), i < 6 ? 0 : 42);
            due.is("clock " + i + ": HALT", x.state(2), i < 7 ? 0 : 1);
        }
    }

    private static void resultsGoOn() {
        PipeWorks x = Asm.with(Asm.addi(1, 0, 1), Asm.op(0, 2, 1, 1), Asm.op(0, 3, 2, 1), Asm.op(0, 4, 3, 1),
                Asm.op(0, 4, 4, 1), Asm.store(2, 4, 0, 0), Asm.branch(0, 4, 1, 8), Asm.CALL);
        for (int i = 1; i <= 12; i++) {
            due.is("clock", x.clock(1), i < 5 ? 0 : i < 11 ? i - 4 : 7);
            due.is("clock " + i + ": x1", x.register(1), i < 5 ? 0 : 1);
            due.is("clock " + i + ": x2", x.register(2), i < 6 ? 0 : 2);
            due.is("clock " + i + ": x3", x.register(3), i < 7 ? 0 : 3);
            due.is("clock " + i + ": x4", x.register(4), i < 8 ? 0 : i < 9 ? 4 : 5);
            due.is("clock " + i + ": memory(0)", x.memory(0), i < 9 ? 0 : 5);
        }
    }

    private static void waitsForLoads() {
        for (int f3 : new int[] {0, 1, 2, 4, 5}) {
            int load = Asm.load(f3, 5, 0, 0);
            lag("19", load, Asm.addi(7, 5, 1), 2);
            lag("51, rs1", load, Asm.op(0, 7, 5, 6), 2);
            lag("51, rs2", load, Asm.op(0, 7, 6, 5), 2);
            lag("51, both", load, Asm.op(0, 7, 5, 5), 2);
            lag("51, difference", load, Asm.opOther(0, 7, 6, 5), 2);
            lag("99, rs1", load, Asm.branch(1, 5, 6, 8), 2);
            lag("99, rs2", load, Asm.branch(1, 6, 5, 8), 2);
            lag("3", load, Asm.load(2, 7, 5, 0), 2);
            lag("35, rs1", load, Asm.store(2, 6, 5, 0), 2);
            lag("35, rs2", load, Asm.store(2, 5, 6, 0), 2);
            lag("103", load, Asm.jumpBy(7, 5, 4), 2);
            // Those that HALT by what they read do read it.
            lag("3, uneven", load, Asm.load(2, 7, 5, 1), 2);
            lag("35, beyond", load, Asm.store(2, 7, 5, 1024), 2);
            lag("103, uneven", load, Asm.jumpBy(7, 5, 2), 2);
        }
        lag("x31", Asm.load(2, 31, 0, 0), Asm.addi(7, 31, 1), 2);
    }

    private static void waitsForNothingElse() {
        int load = Asm.load(2, 5, 0, 0);
        lag("rd only", load, Asm.addi(5, 6, 1), 1);
        lag("others", load, Asm.op(0, 7, 6, 6), 1);
        lag("19 has no rs2", load, Asm.addi(7, 6, 5), 1);
        lag("19, a shift by 5", load, Asm.opI(1, 7, 6, 5), 1);
        lag("3 has no rs2", load, Asm.load(0, 7, 0, 5), 1);
        lag("103 has no rs2", load, Asm.jumpBy(7, 6, 5 * 4), 1);
        lag("35's bits of rd", load, Asm.store(0, 6, 0, 5), 1);
        lag("99's bits of rd", load, Asm.branch(1, 0, 0, 4), 1);
        lag("55", load, Asm.upper(55, 7, 5 << 3 | 5 << 8), 1);
        lag("23", load, Asm.upper(23, 7, 5 << 3 | 5 << 8), 1);
        lag("111", load, Asm.jump(7, 0) | 5 << 15 | 5 << 20, 1);
        lag("15", load, Asm.r(15, 0, 0, 7, 5, 5), 1);
        lag("CALL", load, Asm.CALL, 1);
        lag("a load to x0", Asm.load(2, 0, 0, 0), Asm.op(0, 7, 0, 0), 1);
        lag("a load to x1 and BREAK, whose bits of rs2 are 1", Asm.load(2, 1, 0, 0), Asm.BREAK, 1);
        lag("no load", Asm.addi(5, 0, 1), Asm.op(0, 7, 5, 5), 1);
        lag("a store with bits of rd", Asm.store(2, 6, 0, 4), Asm.op(0, 7, 4, 4), 1);
        // One word between them is enough.
        PipeWorks x = Asm.with(load, Asm.NOP, Asm.addi(7, 5, 1), Asm.CALL);
        x.data(0, 8);
        due.is("one between", x.clock(7), 3);
        due.is("x7", x.register(7), 9);
    }

    private static void illegalOnesDoNotWait() {
        int load = Asm.load(2, 5, 0, 0);
        lag("19, f7", load, Asm.r(19, 1, 1, 7, 5, 5), 1);
        lag("51, f7", load, Asm.r(51, 0, 1, 7, 5, 5), 1);
        lag("99, f3", load, Asm.r(99, 2, 0, 8, 5, 5), 1);
        lag("3, f3", load, Asm.r(3, 3, 0, 7, 5, 5), 1);
        lag("35, f3", load, Asm.r(35, 3, 0, 0, 5, 5), 1);
        lag("103, f3", load, Asm.r(103, 1, 0, 0, 5, 5), 1);
        lag("15, f3", load, Asm.r(15, 1, 0, 0, 5, 5), 1);
        lag("115", load, Asm.r(115, 0, 0, 0, 5, 5), 1);
        lag("47", load, Asm.r(47, 0, 0, 0, 5, 5), 1);
    }

    private static void jumpsCostTwo() {
        lag("111 to the next", Asm.jump(1, 4), Asm.NOP, 3);
        lag("103 to the next", Asm.jumpBy(1, 0, 4), Asm.NOP, 3);
        lag("99 to the next", Asm.branch(0, 0, 0, 4), Asm.NOP, 3);
        lag("99 not so", Asm.branch(1, 0, 0, 4), Asm.NOP, 1);
        lag("111 and its rd", Asm.jump(1, 4), Asm.op(0, 2, 1, 1), 3);
        lag("CALL where it JUMPS", Asm.jump(1, 4), Asm.CALL, 3);
    }

    private static void loadThenLoad() {
        PipeWorks x = Asm.with(Asm.load(2, 1, 0, 0), Asm.load(2, 1, 1, 0), Asm.load(2, 1, 1, 0), Asm.jumpBy(2, 1, 0));
        x.data(0, 8);
        x.data(2, 20);
        x.data(5, 64);
        x.word(16, Asm.CALL);
        int[] done = {0, 0, 0, 0, 1, 1, 2, 2, 3, 3, 4, 4, 4, 4};
        int[] x1 = {0, 0, 0, 0, 8, 8, 20, 20, 64, 64, 64, 64, 64, 64};
        for (int i = 1; i <= 14; i++) {
            due.is("clock " + i, x.clock(1), done[i - 1]);
            due.is("clock " + i + ": x1", x.register(1), x1[i - 1]);
            due.is("clock " + i + ": HALT", x.state(2), i < 14 ? 0 : 1);
        }
        due.state("at the end", x, 14, 4, 1, 64, 12, 14);
    }
}
