/** CLOCKS and STAGES, at their edges: each sentence that names one has a test of its own. */
final class ClockEdgesTest {
    private static final int LOAD5 = Asm.load(2, 5, 0, 0);
    private static final Due due = new Due("ClockEdgesTest");

    public static void main(String[] args) {
        due.sentence("The first word of the run is in FETCH in clock 1.");
        firstWord();
        due.sentence("The next word is in EXECUTE one clock behind the one before");
        oneBehind();
        due.sentence("two behind, if that one loads (opcode 3) .. and that it reads");
        twoBehindALoad();
        due.sentence("that one loads (opcode 3)");
        onlyLoadsAreWaitedFor();
        due.sentence("to an rd that is not x0");
        loadsToZero();
        due.sentence("as rs1: all but 55, 23, 111, 15, 115");
        readAsRs1();
        due.sentence("as rs2: 99, 35, 51");
        readAsRs2();
        due.sentence("ILLEGAL ones and those beyond 1023 read nothing");
        readNothing();
        due.sentence("three behind, if that one JUMPS.");
        threeBehind();
        due.sentence("results go on to those that need them");
        resultsGoOn();
        due.sentence("What a store does is there with the end of its clock in MEMORY");
        clockOfAStore();
        due.sentence("what comes to rd with the end of that in WRITE: it is DONE then");
        clockOfARegister();
        due.end();
    }

    /** Word by word, the clock with which it is DONE; with the last of them it HALTS instead. */
    private static void ends(String what, PipeWorks x, int... clocks) {
        int done = 0;
        for (int clock = 1; clock <= clocks[clocks.length - 1] + 3; clock++) {
            if (done < clocks.length - 1 && clock == clocks[done]) {
                done++;
            }
            due.is(what + ", clock " + clock + ": DONE", x.clock(1), done);
            due.is(what + ", clock " + clock + ": HALT", x.state(2) != 0, clock >= clocks[clocks.length - 1]);
        }
    }

    private static PipeWorks with(int... words) {
        PipeWorks x = Asm.with(words);
        x.data(0, 8);
        x.data(2, 12);
        x.set(6, 8);
        return x;
    }

    /** w behind a load to x5, and CALL behind w: how far w is behind the load. */
    private static void behindALoad(String what, int w, int lag) {
        ends(what, with(LOAD5, w, Asm.CALL), 5, 5 + lag, 6 + lag);
        ends(what + ", one between", with(LOAD5, Asm.NOP, w, Asm.CALL), 5, 6, 7, 8);
    }

    private static void firstWord() {
        PipeWorks x = with(Asm.addi(1, 0, 1), Asm.CALL);
        due.is("clock(4)", x.clock(4), 0);
        due.state("clock 4", x, 4, 0, 0, 0, -1, 4);
        due.is("x1 with clock 4", x.register(1), 0);
        due.is("clock(1)", x.clock(1), 1);
        due.state("clock 5", x, 5, 1, 0, 0, 0, 5);
        due.is("x1 with clock 5", x.register(1), 1);
        x.reset();
        ends("behind reset", x, 5, 6);
        ends("a HALT as first", with(Asm.CALL), 5);
        ends("a load as first", with(LOAD5, Asm.CALL), 5, 6);
    }

    private static void oneBehind() {
        PipeWorks x = new PipeWorks();
        for (int k = 0; k < 150; k++) {
            x.word(k, Asm.addi(1, 1, 1));
        }
        for (int clock = 1; clock <= 150; clock++) {
            due.is("clock " + clock, x.clock(1), Math.max(0, clock - 4));
            due.is("x1 with clock " + clock, x.register(1), Math.max(0, clock - 4));
        }
        ends("99 not so", with(Asm.branch(1, 0, 0, 8), Asm.branch(4, 0, 0, 8), Asm.CALL), 5, 6, 7);
        ends("stores", with(Asm.store(2, 6, 0, 0), Asm.store(2, 6, 0, 0), Asm.CALL), 5, 6, 7);
        ends("loads", with(Asm.load(2, 1, 0, 0), Asm.load(2, 2, 0, 0), Asm.CALL), 5, 6, 7);
    }

    private static void twoBehindALoad() {
        for (int f3 : new int[] {0, 1, 2, 4, 5}) {
            for (int rd : new int[] {1, 2, 15, 16, 30, 31}) {
                PipeWorks x = with(Asm.load(f3, rd, 0, 0), Asm.addi(7, rd, 1), Asm.CALL);
                ends("load f3 " + f3 + " to x" + rd, x, 5, 7, 8);
                due.is("x7", x.register(7), 9);
            }
        }
        ends("a load that needs a load", with(LOAD5, Asm.load(2, 5, 5, 0), Asm.load(2, 5, 5, 0), Asm.CALL), 5, 7, 9, 10);
        ends("it itself reads what it loads", with(Asm.load(2, 6, 6, 0), Asm.NOP, Asm.CALL), 5, 6, 7);
        ends("rd alone is not read", with(LOAD5, Asm.addi(5, 6, 1), Asm.op(0, 7, 5, 5), Asm.CALL), 5, 6, 7, 8);
        ends("the one behind the next", with(LOAD5, Asm.NOP, Asm.op(0, 7, 5, 5), Asm.CALL), 5, 6, 7, 8);
        ends("another's bits", with(LOAD5, Asm.op(0, 7, 4, 6), Asm.CALL), 5, 6, 7);
    }

    private static void onlyLoadsAreWaitedFor() {
        int[] makers = {Asm.addi(5, 0, 1), Asm.op(0, 5, 6, 6), Asm.upper(55, 5, 1), Asm.upper(23, 5, 1),
            Asm.r(15, 0, 0, 5, 0, 0), Asm.store(2, 6, 0, 4), Asm.branch(1, 0, 0, 4)};
        for (int w : makers) {
            int rd = w >> 7 & 31;
            ends("behind word " + w, with(w, Asm.op(0, 7, rd, rd), Asm.CALL), 5, 6, 7);
        }
    }

    private static void loadsToZero() {
        for (int f3 : new int[] {0, 1, 2, 4, 5}) {
            int load = Asm.load(f3, 0, 0, 0);
            ends("19", with(load, Asm.addi(7, 0, 1), Asm.CALL), 5, 6, 7);
            ends("51", with(load, Asm.op(0, 7, 0, 0), Asm.CALL), 5, 6, 7);
            ends("35", with(load, Asm.store(2, 0, 0, 0), Asm.CALL), 5, 6, 7);
            ends("99", with(load, Asm.branch(1, 0, 0, 8), Asm.CALL), 5, 6, 7);
            ends("3", with(load, Asm.load(2, 7, 0, 0), Asm.CALL), 5, 6, 7);
        }
    }

    private static void readAsRs1() {
        behindALoad("19", Asm.addi(7, 5, 1), 2);
        behindALoad("19, a shift", Asm.opI(1, 7, 5, 1), 2);
        behindALoad("51", Asm.op(0, 7, 5, 6), 2);
        behindALoad("51, f7 32", Asm.opOther(5, 7, 5, 6), 2);
        behindALoad("3", Asm.load(2, 7, 5, 0), 2);
        behindALoad("35", Asm.store(2, 6, 5, 0), 2);
        behindALoad("99", Asm.branch(1, 5, 6, 8), 2);
        ends("103", with(LOAD5, Asm.jumpBy(7, 5, 0), Asm.CALL), 5, 7, 10);
        ends("103 that HALTS", with(LOAD5, Asm.jumpBy(7, 5, 2)), 5, 7);
        ends("3 that HALTS", with(LOAD5, Asm.load(2, 7, 5, 1)), 5, 7);
        ends("35 that HALTS", with(LOAD5, Asm.store(2, 7, 5, 1024)), 5, 7);
        int bits = 5 << 15;
        behindALoad("55", Asm.upper(55, 7, 0) | bits, 1);
        behindALoad("23", Asm.upper(23, 7, 0) | bits, 1);
        behindALoad("15", Asm.r(15, 0, 0, 7, 5, 0), 1);
        ends("111", with(LOAD5, Asm.jump(7, 0) | bits, Asm.CALL), 5, 6, 9);
        ends("115", with(LOAD5, Asm.CALL | bits), 5, 6);
    }

    private static void readAsRs2() {
        behindALoad("51", Asm.op(0, 7, 6, 5), 2);
        behindALoad("51, f7 32", Asm.opOther(0, 7, 6, 5), 2);
        behindALoad("35", Asm.store(2, 5, 6, 0), 2);
        behindALoad("99", Asm.branch(1, 6, 5, 8), 2);
        ends("99 that JUMPS", with(LOAD5, Asm.branch(0, 6, 5, 4), Asm.CALL), 5, 7, 10);
        int bits = 5 << 20;
        behindALoad("19", Asm.addi(7, 6, 5), 1);
        behindALoad("19, a shift", Asm.opI(5, 7, 6, 5), 1);
        behindALoad("3", Asm.load(0, 7, 6, 5), 1);
        behindALoad("55", Asm.upper(55, 7, 0) | bits, 1);
        behindALoad("23", Asm.upper(23, 7, 0) | bits, 1);
        behindALoad("15", Asm.r(15, 0, 0, 7, 0, 5), 1);
        ends("103", with(LOAD5, Asm.jumpBy(7, 6, 5)), 5, 6, 9);
        ends("111", with(LOAD5, Asm.jump(7, 4) | bits), 5, 6, 9);
        ends("BREAK", with(Asm.load(2, 1, 0, 0), Asm.BREAK), 5, 6);
    }

    private static void readNothing() {
        int[] words = {Asm.r(19, 1, 1, 7, 5, 5), Asm.r(19, 5, 1, 7, 5, 5), Asm.r(51, 0, 1, 7, 5, 5),
            Asm.r(51, 1, 32, 7, 5, 5), Asm.r(99, 2, 0, 8, 5, 5), Asm.r(99, 3, 0, 8, 5, 5), Asm.r(3, 3, 0, 7, 5, 5),
            Asm.r(3, 6, 0, 7, 5, 5), Asm.r(3, 7, 0, 7, 5, 5), Asm.r(35, 3, 0, 0, 5, 5), Asm.r(35, 7, 0, 0, 5, 5),
            Asm.r(103, 1, 0, 0, 5, 5), Asm.r(47, 0, 0, 7, 5, 5), Asm.r(115, 0, 0, 0, 5, 5), Asm.r(115, 1, 0, 7, 5, 5)};
        for (int w : words) {
            PipeWorks x = with(LOAD5, w);
            ends("word " + w, x, 5, 6);
            due.is("word " + w + ": kind", x.state(2), 3);
        }
        // Beyond the last word there is nothing, not the first word again, that would read.
        PipeWorks y = with(Asm.branch(0, 5, 5, 1020));
        y.word(255, LOAD5);
        ends("beyond", y, 5, 8, 9);
        due.is("beyond: kind", y.state(2), 4);
    }

    private static void threeBehind() {
        ends("111", with(Asm.jump(1, 8), Asm.CALL, Asm.NOP, Asm.CALL), 5, 8, 9);
        ends("103", with(Asm.jumpBy(1, 0, 8), Asm.CALL, Asm.NOP, Asm.CALL), 5, 8, 9);
        for (int f3 : new int[] {0, 5, 7}) {
            ends("99, f3 " + f3, with(Asm.branch(f3, 0, 0, 8), Asm.CALL, Asm.NOP, Asm.CALL), 5, 8, 9);
        }
        for (int f3 : new int[] {1, 4, 6}) {
            ends("99, f3 " + f3 + ", not so", with(Asm.branch(f3, 0, 0, 8), Asm.NOP, Asm.CALL), 5, 6, 7);
        }
        ends("to the next word", with(Asm.jump(1, 4), Asm.branch(0, 0, 0, 4), Asm.jumpBy(1, 0, 12), Asm.CALL), 5, 8, 11, 14);
        ends("to a HALT", with(Asm.jump(1, 8), Asm.NOP, Asm.CALL), 5, 8);
        ends("beyond", with(Asm.jump(1, 1024)), 5, 8);
        ends("one that reads rd", with(Asm.jump(1, 4), Asm.op(0, 2, 1, 1), Asm.CALL), 5, 8, 9);
        ends("a load where it JUMPS", with(Asm.jump(1, 4), LOAD5, Asm.addi(7, 5, 1), Asm.CALL), 5, 8, 10, 11);
        ends("one that JUMPS behind a load", with(LOAD5, Asm.jump(1, 4), Asm.addi(7, 5, 1), Asm.CALL), 5, 6, 9, 10);
    }

    private static void resultsGoOn() {
        PipeWorks x = with(Asm.addi(1, 0, 3), Asm.op(0, 2, 1, 1), Asm.op(0, 3, 2, 1), Asm.op(0, 4, 1, 3),
                Asm.op(0, 1, 1, 4), Asm.addi(1, 1, 1), Asm.store(2, 1, 0, 4), Asm.load(2, 7, 0, 4), Asm.op(0, 7, 7, 1),
                Asm.branch(1, 7, 7, 8), Asm.CALL);
        ends("a chain", x, 5, 6, 7, 8, 9, 10, 11, 12, 14, 15, 16);
        int[] want = {0, 16, 6, 9, 12};
        for (int k = 0; k < want.length; k++) {
            due.is("x" + k, x.register(k), want[k]);
        }
        due.is("memory(1)", x.memory(1), 16);
        due.is("x7", x.register(7), 32);
    }

    private static void clockOfAStore() {
        for (int f3 = 0; f3 < 3; f3++) {
            PipeWorks x = with(Asm.store(f3, 6, 0, 4), Asm.addi(6, 6, 1), Asm.store(f3, 6, 0, 4), Asm.CALL);
            int[] want = {0, 0, 0, 8, 8, 9, 9, 9};
            for (int i = 0; i < want.length; i++) {
                due.is("DONE", x.clock(1), i < 4 ? 0 : i < 7 ? i - 3 : 3);
                due.is("f3 " + f3 + ", memory(1) with clock " + (i + 1), x.memory(1), want[i]);
            }
        }
        // A store that waits in DECODE is one clock later.
        PipeWorks y = with(LOAD5, Asm.store(2, 5, 0, 4), Asm.CALL);
        int[] want = {0, 0, 0, 0, 0, 8, 8, 8};
        for (int i = 0; i < want.length; i++) {
            y.clock(1);
            due.is("memory(1) with clock " + (i + 1), y.memory(1), want[i]);
        }
    }

    private static void clockOfARegister() {
        int[] words = {Asm.addi(1, 0, 4), Asm.op(0, 1, 6, 0), Asm.load(2, 1, 0, 0), Asm.upper(55, 1, 1),
            Asm.upper(23, 1, 1), Asm.jump(1, 4), Asm.jumpBy(1, 0, 4)};
        int[] result = {4, 8, 8, 4096, 4096, 4, 4};
        for (int i = 0; i < words.length; i++) {
            PipeWorks x = with(words[i], Asm.CALL);
            x.set(1, 77);
            for (int clock = 1; clock <= 6; clock++) {
                due.is("word " + words[i] + ", clock " + clock, x.clock(1), clock < 5 ? 0 : 1);
                due.is("word " + words[i] + ", x1 with clock " + clock, x.register(1), clock < 5 ? 77 : result[i]);
                due.is("word " + words[i] + ", latest with clock " + clock, x.state(4), clock < 5 ? -1 : 0);
            }
        }
    }
}
