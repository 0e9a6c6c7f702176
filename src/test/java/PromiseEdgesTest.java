/** The promises, at their edges: each sentence that names one has a test of its own. */
final class PromiseEdgesTest {
    private static final int MIN = Integer.MIN_VALUE;
    private static final int MAX = Integer.MAX_VALUE;
    private static final int[] VALUES = {MIN, -1, 0, 1, 115, MAX};
    private static final Class<IllegalArgumentException> ARGUMENT = IllegalArgumentException.class;
    private static final Class<IllegalStateException> STATE = IllegalStateException.class;
    private static final Due due = new Due("PromiseEdgesTest");

    public static void main(String[] args) {
        due.sentence("An object is used for at most 512 calls after it has been made");
        all512Calls();
        due.sentence("Promise 1: makes an object in the state that the terms give");
        newObject();
        due.sentence("Promise 2: A word of the WORD MEMORY (k 0 .. 255): true");
        wordsThereAre();
        due.sentence("Promise 2: false, changing nothing, if there is none such");
        noSuchWord();
        due.sentence("Promise 2: or a clock has been since reset()");
        wordBehindAClock();
        due.sentence("Promise 3: A word of the DATA MEMORY (k 0 .. 63), likewise: true");
        dataThereAre();
        due.sentence("Promise 3: likewise: false, changing nothing, if there is none such");
        noSuchData();
        due.sentence("Promise 3: likewise: or a clock has been since reset()");
        dataBehindAClock();
        due.sentence("Promise 4: A REGISTER (k 1 .. 31), likewise: true");
        registersThereAre();
        due.sentence("Promise 4: likewise: false, changing nothing, if there is none such");
        noSuchRegisterToSet();
        due.sentence("Promise 4: likewise: or a clock has been since reset()");
        setBehindAClock();
        due.sentence("Promise 5: The run stands at its beginning, clock 0, nothing DONE");
        resetAtEachClock();
        due.sentence("Promise 5: REGISTERS and memories stay as they are");
        resetLeavesWhatIsThere();
        due.sentence("Promise 6: n clocks: how many words are DONE in all since reset()");
        clocksAtOnce();
        due.sentence("Promise 6: IllegalArgumentException: n is not 1 .. 200");
        wrongClocks();
        due.sentence("Promise 6: IllegalStateException: more clocks than 20000 in all");
        exactly20000();
        due.sentence("Promise 6: more clocks than 20000 in all, also over resets");
        inAllOverResets();
        due.sentence("Promise 6: IllegalStateException, changing nothing");
        refusedClockChangesNothing();
        due.sentence("Promise 7: NoSuchElementException: there is none such");
        noSuchRegister();
        due.sentence("Promise 8: NoSuchElementException: there is none such");
        noSuchMemory();
        due.sentence("Promise 9: the kind of the HALT (0 without one), 3: the address of the word at which it HALTS (0 without one)");
        stateOfTheHalt();
        due.sentence("Promise 9: 4: the address of the latest word DONE (NONE without one)");
        stateOfTheLatest();
        due.sentence("Promise 9: 0: clocks since reset() .. 5: clocks in all");
        stateOfTheClocks();
        due.sentence("Promise 9: NONE for another what.");
        anotherWhat();
        due.end();
    }

    /** A sum and a way back to it: two words in each four clocks. */
    private static PipeWorks loop() {
        return Asm.with(Asm.addi(1, 1, 1), Asm.jump(0, -4));
    }

    /** How many words of the loop are DONE: the sum with clocks 5, 9, .., the way back with 6, 10, .. */
    private static int loopDone(int clocks) {
        return Math.max(0, (clocks - 1) / 4) + Math.max(0, (clocks - 2) / 4);
    }

    private static void all512Calls() {
        PipeWorks x = loop();
        for (int call = 3; call <= 511; call++) {
            due.is("call " + call + ", clock(39)", x.clock(39), loopDone(39 * (call - 2)));
        }
        due.is("call 512", x.register(1), (509 * 39 - 1) / 4);
    }

    private static void newObject() {
        due.state("new", new PipeWorks(), 0, 0, 0, 0, PipeWorks.NONE, 0);
        due.is("NONE", PipeWorks.NONE, -1);
        PipeWorks x = new PipeWorks();
        due.is("word at once", x.word(0, Asm.NOP), true);
        due.is("data at once", x.data(0, 1), true);
        due.is("set at once", x.set(1, 1), true);
        PipeWorks y = new PipeWorks();
        due.is("another's memory", y.memory(0), 0);
        due.is("another's register", y.register(1), 0);
        due.is("another's run", y.clock(5), 0);
        due.is("another's word", y.state(2), 3);
    }

    /** What lies at word k is seen by running it: x1 becomes k + 1 there. */
    private static void wordsThereAre() {
        PipeWorks x = new PipeWorks();
        for (int k = 255; k >= 0; k--) {
            due.is("word(" + k + ")", x.word(k, k % 2 == 0 ? Asm.addi(1, 1, k + 1) : Asm.NOP), true);
        }
        x.clock(200);
        due.is("all of them", x.clock(60), 256);
        due.is("their sum", x.register(1), 128 * 128);
        PipeWorks y = new PipeWorks();
        for (int w : VALUES) {
            due.is("word(0, " + w + ")", y.word(0, w), true);
            due.is("word(255, " + w + ")", y.word(255, w), true);
        }
        due.is("the latest counts", y.word(0, Asm.BREAK), true);
        y.clock(5);
        due.is("BREAK", y.state(2), 2);
    }

    private static void noSuchWord() {
        PipeWorks x = new PipeWorks();
        for (int k = 0; k < 256; k++) {
            x.word(k, Asm.addi(1, 1, 1));
        }
        for (int k : new int[] {-1, -2, -256, MIN, MIN + 1, 256, 257, 512, 1020, 1024, 65536, MAX}) {
            due.is("word(" + k + ")", x.word(k, Asm.BREAK), false);
        }
        due.state("behind them", x, 0, 0, 0, 0, -1, 0);
        x.clock(200);
        due.is("all words as they were", x.clock(60), 256);
        due.is("x1", x.register(1), 256);
    }

    private static void wordBehindAClock() {
        PipeWorks x = Asm.with(Asm.addi(1, 0, 1), Asm.addi(2, 0, 2));
        x.word(2, Asm.CALL);
        for (int clock = 1; clock <= 9; clock++) {
            x.clock(1);
            for (int k = 0; k < 4; k++) {
                due.is("word(" + k + ") behind clock " + clock, x.word(k, Asm.BREAK), false);
            }
            due.is("word(255) behind clock " + clock, x.word(255, Asm.BREAK), false);
            due.is("word(256) behind clock " + clock, x.word(256, Asm.BREAK), false);
        }
        due.state("the words as they were", x, 9, 2, 1, 8, 4, 9);
        x.reset();
        due.is("DONE behind reset", x.clock(7), 2);
        due.state("still as they were", x, 7, 2, 1, 8, 4, 16);
        x.reset();
        due.is("word(0) behind reset", x.word(0, Asm.BREAK), true);
        x.clock(5);
        due.state("the new one", x, 5, 0, 2, 0, -1, 21);
        mayStillBeSet();
    }

    /** A clock that was refused has not been. */
    private static void mayStillBeSet() {
        PipeWorks x = new PipeWorks();
        due.clockThrows(x, 0, ARGUMENT);
        due.clockThrows(x, 201, ARGUMENT);
        due.is("word behind a refused clock", x.word(0, Asm.BREAK), true);
        due.is("data behind a refused clock", x.data(0, 3), true);
        due.is("set behind a refused clock", x.set(1, 3), true);
        x.clock(5);
        due.is("BREAK", x.state(2), 2);
    }

    private static void dataThereAre() {
        for (int v : VALUES) {
            PipeWorks x = new PipeWorks();
            for (int k = 0; k < 64; k++) {
                due.is("data(" + k + ", " + v + ")", x.data(k, v - k), true);
            }
            for (int k = 0; k < 64; k++) {
                due.is("memory(" + k + ")", x.memory(k), v - k);
            }
        }
    }

    private static void noSuchData() {
        PipeWorks x = new PipeWorks();
        for (int k = 0; k < 64; k++) {
            x.data(k, 1000 + k);
        }
        for (int k : new int[] {-1, -2, -64, MIN, MIN + 1, 64, 65, 128, 252, 255, 256, 65536, MAX}) {
            due.is("data(" + k + ")", x.data(k, 7), false);
        }
        due.state("behind them", x, 0, 0, 0, 0, -1, 0);
        for (int k = 0; k < 64; k++) {
            due.is("memory(" + k + ")", x.memory(k), 1000 + k);
        }
    }

    private static void dataBehindAClock() {
        PipeWorks x = Asm.with(Asm.load(2, 1, 0, 252), Asm.CALL);
        x.data(63, 5);
        for (int clock = 1; clock <= 9; clock++) {
            x.clock(1);
            for (int k : new int[] {0, 1, 63, 64, -1}) {
                due.is("data(" + k + ") behind clock " + clock, x.data(k, 7), false);
            }
        }
        due.is("x1", x.register(1), 5);
        due.is("memory(0)", x.memory(0), 0);
        due.is("memory(1)", x.memory(1), 0);
        due.is("memory(63)", x.memory(63), 5);
        x.reset();
        due.is("data(63) behind reset", x.data(63, 6), true);
        due.is("memory(63) behind reset", x.memory(63), 6);
        x.clock(5);
        due.is("x1 behind reset", x.register(1), 6);
    }

    private static void registersThereAre() {
        for (int v : VALUES) {
            PipeWorks x = new PipeWorks();
            for (int k = 1; k < 32; k++) {
                due.is("set(" + k + ", " + v + ")", x.set(k, v - k), true);
            }
            for (int k = 1; k < 32; k++) {
                due.is("register(" + k + ")", x.register(k), v - k);
            }
        }
    }

    private static void noSuchRegisterToSet() {
        PipeWorks x = new PipeWorks();
        for (int k = 1; k < 32; k++) {
            x.set(k, 1000 + k);
        }
        for (int k : new int[] {0, -1, -2, -31, -32, MIN, MIN + 1, 32, 33, 63, 64, 65536, MAX}) {
            due.is("set(" + k + ", 7)", x.set(k, 7), false);
            due.is("set(" + k + ", 0)", x.set(k, 0), false);
        }
        due.state("behind them", x, 0, 0, 0, 0, -1, 0);
        due.is("register(0)", x.register(0), 0);
        for (int k = 1; k < 32; k++) {
            due.is("register(" + k + ")", x.register(k), 1000 + k);
        }
    }

    private static void setBehindAClock() {
        PipeWorks x = Asm.with(Asm.op(0, 3, 1, 31), Asm.CALL);
        x.set(1, 5);
        x.set(31, 6);
        for (int clock = 1; clock <= 9; clock++) {
            x.clock(1);
            for (int k : new int[] {0, 1, 31, 32, -1}) {
                due.is("set(" + k + ") behind clock " + clock, x.set(k, 7), false);
            }
        }
        due.is("x1", x.register(1), 5);
        due.is("x3", x.register(3), 11);
        due.is("x31", x.register(31), 6);
        x.reset();
        due.is("set(1) behind reset", x.set(1, 8), true);
        due.is("set(31) behind reset", x.set(31, 9), true);
        x.clock(5);
        due.is("x3 behind reset", x.register(3), 17);
    }

    /** Stores, a wait, a way and a HALT, so that reset finds words in all stages. */
    private static final int[] PROGRAM = {Asm.addi(1, 1, 1), Asm.store(2, 1, 0, 4), Asm.load(2, 2, 0, 4),
        Asm.op(0, 3, 3, 2), Asm.jump(4, 8), Asm.BREAK, Asm.store(0, 3, 0, 255), Asm.CALL};

    private static void resetAtEachClock() {
        for (int before = 0; before <= 20; before++) {
            PipeWorks x = Asm.with(PROGRAM);
            if (before > 0) {
                x.clock(before);
            }
            PipeWorks same = Asm.with(PROGRAM);
            for (int k = 1; k < 5; k++) {
                same.set(k, x.register(k));
            }
            same.data(1, x.memory(1));
            same.data(63, x.memory(63));
            x.reset();
            due.state("reset behind " + before, x, 0, 0, 0, 0, -1, before);
            for (int clock = 1; clock <= 20; clock++) {
                due.is("DONE " + clock + " behind reset behind " + before, x.clock(1), same.clock(1));
                due.state("behind reset behind " + before, x, clock, same.state(1), same.state(2), same.state(3),
                        same.state(4), before + clock);
            }
            for (int k = 0; k < 6; k++) {
                due.is("x" + k + " behind reset behind " + before, x.register(k), same.register(k));
            }
            due.is("memory(1) behind reset behind " + before, x.memory(1), same.memory(1));
            due.is("memory(63) behind reset behind " + before, x.memory(63), same.memory(63));
        }
        PipeWorks twice = Asm.with(Asm.addi(1, 1, 1), Asm.CALL);
        twice.reset();
        twice.reset();
        due.state("reset of a new one", twice, 0, 0, 0, 0, -1, 0);
        due.is("and its run", twice.clock(5), 1);
    }

    private static void resetLeavesWhatIsThere() {
        PipeWorks x = Asm.with(PROGRAM);
        for (int k = 5; k < 32; k++) {
            x.set(k, 100 + k);
        }
        for (int k = 0; k < 64; k++) {
            x.data(k, 200 + k);
        }
        x.word(255, Asm.BREAK);
        x.clock(20);
        x.reset();
        int[] low = {0, 1, 1, 1, 20};
        for (int k = 0; k < 32; k++) {
            due.is("register(" + k + ")", x.register(k), k < 5 ? low[k] : 100 + k);
        }
        for (int k = 0; k < 64; k++) {
            int want = k == 1 ? 1 : k == 63 ? 263 & 0xFFFFFF | 1 << 24 : 200 + k;
            due.is("memory(" + k + ")", x.memory(k), want);
        }
        x.word(0, Asm.jump(0, 1020));
        x.clock(8);
        due.state("the last word stays too", x, 8, 1, 2, 1020, 0, 28);
    }

    private static void clocksAtOnce() {
        for (int n : new int[] {1, 2, 4, 5, 6, 7, 199, 200}) {
            due.is("clock(" + n + ")", loop().clock(n), loopDone(n));
        }
        PipeWorks x = loop();
        x.clock(200);
        due.is("a second clock(200)", x.clock(200), loopDone(400));
        x.reset();
        due.is("behind reset", x.clock(5), 1);
        x.reset();
        due.is("behind another", x.clock(4), 0);
        PipeWorks halted = Asm.with(Asm.NOP, Asm.CALL);
        due.is("up to the HALT", halted.clock(6), 1);
        due.is("behind it", halted.clock(200), 1);
    }

    private static void wrongClocks() {
        PipeWorks x = loop();
        int[] wrong = {0, -1, -200, MIN, MIN + 1, 201, 202, 400, 20000, 20001, MAX - 1, MAX};
        for (int n : wrong) {
            due.clockThrows(x, n, ARGUMENT);
        }
        due.state("behind them", x, 0, 0, 0, 0, -1, 0);
        x.clock(7);
        for (int n : wrong) {
            due.clockThrows(x, n, ARGUMENT);
        }
        due.state("behind them, in the run", x, 7, 2, 0, 0, 4, 7);
        due.is("it goes on", x.clock(2), 3);
        due.is("clock(1) is right", x.clock(1), 4);
        due.is("clock(200) is right", x.clock(200), loopDone(210));
    }

    private static void exactly20000() {
        PipeWorks x = loop();
        for (int i = 1; i <= 99; i++) {
            due.is("clock(200)", x.clock(200), loopDone(200 * i));
        }
        due.is("up to 19999", x.clock(199), loopDone(19999));
        for (int n : new int[] {2, 3, 199, 200}) {
            due.clockThrows(x, n, STATE);
        }
        due.is("the last one", x.clock(1), loopDone(20000));
        due.state("20000", x, 20000, loopDone(20000), 0, 0, 4, 20000);
        for (int n : new int[] {1, 2, 200, 1}) {
            due.clockThrows(x, n, STATE);
        }
        for (int n : new int[] {0, -1, 201, MIN, MAX}) {
            due.clockThrows(x, n, ARGUMENT);
        }
        PipeWorks y = loop();
        for (int i = 1; i <= 100; i++) {
            due.is("clock(200), the " + i + "th", y.clock(200), loopDone(200 * i));
        }
        due.clockThrows(y, 1, STATE);
    }

    private static void inAllOverResets() {
        PipeWorks x = Asm.with(Asm.CALL);
        for (int i = 1; i <= 199; i++) {
            due.is("clock(100)", x.clock(100), 0);
            x.reset();
        }
        due.clockThrows(x, 101, STATE);
        due.is("clock(100), the last", x.clock(100), 0);
        x.reset();
        due.clockThrows(x, 1, STATE);
        due.state("all are used up", x, 0, 0, 0, 0, -1, 20000);
    }

    private static void refusedClockChangesNothing() {
        PipeWorks x = loop();
        PipeWorks same = loop();
        for (int i = 0; i < 99; i++) {
            x.clock(200);
            same.clock(200);
        }
        x.clock(190);
        same.clock(190);
        for (int left = 10; left > 0; left--) {
            due.clockThrows(x, left + 1, STATE);
            due.clockThrows(x, 200, STATE);
            for (int what = 0; what < 6; what++) {
                due.is("state(" + what + ") with " + left + " left", x.state(what), same.state(what));
            }
            due.is("x1 with " + left + " left", x.register(1), same.register(1));
            due.is("clock(1) with " + left + " left", x.clock(1), same.clock(1));
        }
        x.reset();
        due.clockThrows(x, 1, STATE);
        due.state("behind reset", x, 0, 0, 0, 0, -1, 20000);
        due.is("word, for no clock has been", x.word(0, 0), true);
        due.is("data, for no clock has been", x.data(0, 7), true);
        due.is("set, for no clock has been", x.set(1, 7), true);
        due.is("memory(0)", x.memory(0), 7);
        due.is("register(1)", x.register(1), 7);
    }

    private static void noSuchRegister() {
        PipeWorks x = loop();
        for (int round = 0; round < 2; round++) {
            for (int k : new int[] {-1, -2, -32, MIN, MIN + 1, 32, 33, 63, 64, 65536, MAX}) {
                due.registerThrows(x, k);
            }
            due.is("register(0)", x.register(0), 0);
            due.is("register(31)", x.register(31), 0);
            due.state("behind them", x, round * 9, loopDone(9 * round), 0, 0, round == 0 ? -1 : 0, 9 * round);
            x.clock(9);
        }
    }

    private static void noSuchMemory() {
        PipeWorks x = loop();
        x.data(0, 3);
        x.data(63, 4);
        for (int round = 0; round < 2; round++) {
            for (int k : new int[] {-1, -2, -64, MIN, MIN + 1, 64, 65, 252, 255, 256, 65536, MAX}) {
                due.memoryThrows(x, k);
            }
            due.is("memory(0)", x.memory(0), 3);
            due.is("memory(63)", x.memory(63), 4);
            due.state("behind them", x, round * 9, loopDone(9 * round), 0, 0, round == 0 ? -1 : 0, 9 * round);
            x.clock(9);
        }
    }

    private static void stateOfTheHalt() {
        PipeWorks x = Asm.with(Asm.NOP, Asm.NOP, Asm.CALL);
        for (int clock = 0; clock < 7; clock++) {
            due.is("kind before the HALT", x.state(2), 0);
            due.is("address before the HALT", x.state(3), 0);
            x.clock(1);
        }
        for (int i = 0; i < 3; i++) {
            due.is("kind", x.state(2), 1);
            due.is("address", x.state(3), 8);
            x.clock(200);
        }
        x.reset();
        due.is("kind behind reset", x.state(2), 0);
        due.is("address behind reset", x.state(3), 0);
        PipeWorks first = Asm.with(Asm.BREAK);
        first.clock(5);
        due.is("kind at the first word", first.state(2), 2);
        due.is("address at the first word", first.state(3), 0);
        PipeWorks far = Asm.with(Asm.jump(0, -4));
        far.clock(8);
        due.is("kind below 0", far.state(2), 4);
        due.is("address below 0", far.state(3), -4);
    }

    private static void stateOfTheLatest() {
        PipeWorks x = Asm.with(Asm.NOP, Asm.jump(0, 1016), Asm.CALL);
        x.word(255, Asm.jump(0, -1012));
        int[] want = {-1, -1, -1, -1, -1, 0, 4, 4, 4, 1020, 1020, 1020, 1020, 1020};
        for (int clock = 0; clock < want.length; clock++) {
            due.is("latest with clock " + clock, x.state(4), want[clock]);
            x.clock(1);
        }
        due.is("HALT", x.state(3), 8);
        x.reset();
        due.is("latest behind reset", x.state(4), PipeWorks.NONE);
        PipeWorks none = Asm.with(Asm.CALL);
        none.clock(200);
        due.is("a HALT is not DONE", none.state(4), PipeWorks.NONE);
    }

    private static void stateOfTheClocks() {
        PipeWorks x = loop();
        int inAll = 0;
        for (int n : new int[] {1, 200, 3, 199}) {
            x.clock(n);
            inAll += n;
            due.is("clocks since reset", x.state(0), n);
            due.is("clocks in all", x.state(5), inAll);
            x.reset();
            due.is("clocks since reset behind it", x.state(0), 0);
            due.is("clocks in all behind it", x.state(5), inAll);
        }
        PipeWorks halted = Asm.with(Asm.CALL);
        halted.clock(200);
        halted.clock(1);
        due.is("clocks behind a HALT", halted.state(0), 201);
        due.is("clocks in all behind a HALT", halted.state(5), 201);
    }

    private static void anotherWhat() {
        PipeWorks x = loop();
        for (int round = 0; round < 2; round++) {
            for (int what : new int[] {-1, -2, -6, MIN, MIN + 1, 6, 7, 8, 64, 65536, MAX}) {
                due.is("state(" + what + ")", x.state(what), PipeWorks.NONE);
            }
            x.clock(10);
        }
        due.state("behind them", x, 20, loopDone(20), 0, 0, 4, 20);
    }
}
