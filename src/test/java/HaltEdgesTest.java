/** THE RUN and the kinds of its HALT, at their edges: each sentence that names one has a test of its own. */
final class HaltEdgesTest {
    private static final int MIN = Integer.MIN_VALUE;
    private static final int MAX = Integer.MAX_VALUE;
    private static final int[] LOADS = {0, 1, 2, 4, 5};
    private static final int[] STORES = {0, 1, 2};
    private static final Due due = new Due("HaltEdgesTest");

    public static void main(String[] args) {
        due.sentence("from address 0 one by one (the next one at PC + 4, or where it JUMPS)");
        oneByOne();
        due.sentence("It HALTS at a word, which does nothing then");
        haltingWordDoesNothing();
        due.sentence("1 CALL, 2 BREAK, 3 ILLEGAL");
        kindsOfWords();
        due.sentence("4 a PC beyond 1023 (without a sign)");
        beyondTheWords();
        due.sentence("5 one that JUMPS to what is no multiple of 4");
        unevenJumps();
        due.sentence("6 a load or store whose address is no multiple of what it has (2, 4)");
        unevenAccesses();
        due.sentence("7 or, else, is beyond 255 (addresses without signs)");
        accessesBeyond();
        due.sentence("The HALT is there with the end of its word's clock in WRITE; that word is not DONE");
        clockOfTheHalt();
        due.sentence("and nothing behind it does anything");
        nothingBehind();
        due.sentence("wrong ways are left; nothing is ever seen that the words one by one would not have done");
        leftWays();
        due.end();
    }

    private static void oneByOne() {
        PipeWorks x = Asm.with(Asm.addi(1, 0, 1), Asm.branch(1, 0, 0, 8), Asm.addi(1, 1, 1), Asm.jump(0, 8), Asm.BREAK,
                Asm.branch(0, 0, 0, -20));
        int[] due4 = {-1, -1, -1, -1, 0, 4, 8, 12, 12, 12, 20, 20, 20, 0, 4, 8};
        for (int i = 0; i < due4.length; i++) {
            x.clock(1);
            due.is("the latest DONE with clock " + (i + 1), x.state(4), due4[i]);
        }
        due.is("x1 on the second way", x.register(1), 2);
    }

    /** Words that HALT, with the kind; x1 is 2, x2 is 256, x3 is -1, x4 is 9. */
    private static final int[][] HALTING = {
        {115, 1}, {1048691, 2}, {0, 3}, {Asm.r(51, 0, 1, 4, 4, 4), 3}, {Asm.r(3, 3, 0, 4, 0, 0), 3},
        {Asm.r(35, 3, 0, 0, 0, 4), 3}, {Asm.r(103, 1, 0, 4, 0, 0), 3}, {Asm.jump(4, 2), 5}, {Asm.jumpBy(4, 1, 0), 5},
        {Asm.jumpBy(1, 1, 1), 5}, {Asm.branch(0, 4, 4, -2), 5}, {Asm.load(1, 4, 3, 0), 6}, {Asm.load(5, 4, 3, 4), 6},
        {Asm.load(2, 4, 1, 0), 6}, {Asm.load(2, 4, 1, 1), 6}, {Asm.store(1, 4, 3, 4), 6}, {Asm.store(2, 4, 1, 0), 6},
        {Asm.load(0, 4, 2, 0), 7}, {Asm.load(4, 4, 3, 0), 7}, {Asm.load(1, 4, 2, 0), 7}, {Asm.load(2, 4, 2, 0), 7},
        {Asm.store(0, 4, 2, 0), 7}, {Asm.store(0, 4, 3, 0), 7}, {Asm.store(1, 4, 3, -1), 7}, {Asm.store(2, 4, 3, -3), 7},
    };

    private static PipeWorks halting(int... words) {
        PipeWorks x = Asm.with(words);
        x.set(1, 2);
        x.set(2, 256);
        x.set(3, -1);
        x.set(4, 9);
        for (int k = 0; k < 64; k++) {
            x.data(k, 0x01010101 * k);
        }
        return x;
    }

    private static void untouched(String what, PipeWorks x) {
        int[] want = {0, 2, 256, -1, 9, 0, 0, 0};
        for (int k = 0; k < want.length; k++) {
            due.is(what + ": x" + k, x.register(k), want[k]);
        }
        for (int k = 0; k < 64; k++) {
            due.is(what + ": memory(" + k + ")", x.memory(k), 0x01010101 * k);
        }
    }

    private static void haltingWordDoesNothing() {
        for (int[] w : HALTING) {
            PipeWorks x = halting(w[0]);
            due.is("DONE", x.clock(200), 0);
            due.state("word " + w[0], x, 200, 0, w[1], 0, -1, 200);
            untouched("word " + w[0], x);
        }
    }

    private static void kindsOfWords() {
        int[][] words = {{115, 1}, {1048691, 2}, {0, 3}, {-1, 3}, {Asm.r(51, 7, 127, 31, 31, 31), 3}};
        for (int[] w : words) {
            // At the first, the second and the last address.
            PipeWorks first = Asm.with(w[0]);
            first.clock(5);
            due.state("first, word " + w[0], first, 5, 0, w[1], 0, -1, 5);
            PipeWorks second = Asm.with(Asm.NOP, w[0]);
            second.clock(6);
            due.state("second, word " + w[0], second, 6, 1, w[1], 4, 0, 6);
            PipeWorks last = Asm.with(Asm.jump(0, 1020));
            last.word(255, w[0]);
            last.clock(8);
            due.state("last, word " + w[0], last, 8, 1, w[1], 1020, 0, 8);
        }
    }

    private static void goesBeyond(int target) {
        PipeWorks x = Asm.with(Asm.jumpBy(5, 1, 0));
        x.set(1, target);
        for (int k = 1; k < 256; k++) {
            x.word(k, Asm.addi(6, 0, 1));
        }
        due.is("to " + target + ": clock(7)", x.clock(7), 1);
        due.state("to " + target, x, 7, 1, 0, 0, 0, 7);
        due.is("to " + target + ": clock(1)", x.clock(1), 1);
        due.state("to " + target, x, 8, 1, 4, target, 0, 8);
        due.is("to " + target + ": clock(20)", x.clock(20), 1);
        due.state("to " + target, x, 28, 1, 4, target, 0, 28);
        due.is("to " + target + ": x5", x.register(5), 4);
        due.is("to " + target + ": x6", x.register(6), 0);
    }

    private static void beyondTheWords() {
        for (int target : new int[] {1024, 1028, 2044, 2048, 65536, MAX - 3, MIN, MIN + 4, -1024, -8, -4}) {
            goesBeyond(target);
        }
        PipeWorks x = Asm.with(Asm.jump(0, 1016));
        x.word(254, Asm.addi(1, 0, 1));
        x.word(255, Asm.addi(2, 0, 2));
        due.is("1020 is not beyond", x.clock(9), 3);
        due.state("1020 is not beyond", x, 9, 3, 0, 0, 1020, 9);
        due.is("1024 is", x.clock(1), 3);
        due.state("1024 is", x, 10, 3, 4, 1024, 1020, 10);
        due.is("x1", x.register(1), 1);
        due.is("x2", x.register(2), 2);
    }

    private static void jumpsUneven(String what, int w, int x1) {
        PipeWorks x = Asm.with(Asm.NOP, w);
        x.set(1, x1);
        x.set(2, 7);
        due.is(what, x.clock(20), 1);
        due.state(what, x, 20, 1, 5, 4, 0, 20);
        due.is(what + ": rd", x.register(2), 7);
    }

    private static void unevenJumps() {
        for (int by : new int[] {2, -2, 6, -6, 1022, 1026, -1048574, 1048574}) {
            jumpsUneven("111 by " + by, Asm.jump(2, by), 0);
        }
        for (int by : new int[] {2, -2, 6, -6, 1022, 1026, -4094, 4094}) {
            for (int f3 : new int[] {0, 5, 7}) {
                jumpsUneven("99, f3 " + f3 + " by " + by, Asm.branch(f3, 0, 0, by), 0);
            }
        }
        for (int to : new int[] {2, 3, 6, 7, 1022, 1023, 1026, -2, -1, MAX, MAX - 1, MIN + 2, MIN + 3}) {
            jumpsUneven("103 to " + to, Asm.jumpBy(2, 1, 0), to);
            jumpsUneven("103 to " + to + " by 7", Asm.jumpBy(2, 1, 7), to - 7);
        }
        // Its bit 0 cleared, 1 is 0 and 9 is 8: multiples of 4.
        PipeWorks even = Asm.with(Asm.jumpBy(2, 0, 9), Asm.CALL, Asm.BREAK);
        due.is("103 to 9", even.clock(8), 1);
        due.state("103 to 9", even, 8, 1, 2, 8, 0, 8);
        // One that does not JUMP may have any immediate.
        for (int f3 : new int[] {1, 4, 6}) {
            PipeWorks not = Asm.with(Asm.branch(f3, 0, 0, 2), Asm.branch(f3, 0, 0, -4094), Asm.CALL);
            due.is("99, f3 " + f3 + ", not so", not.clock(7), 2);
            due.state("99, f3 " + f3 + ", not so", not, 7, 2, 1, 8, 4, 7);
        }
    }

    private static void access(int w, int x1, int kind) {
        PipeWorks x = Asm.with(w, Asm.CALL);
        x.set(1, x1);
        x.set(2, 7);
        String what = "word " + w + " with x1 " + x1;
        due.is(what, x.clock(6), kind == 0 ? 1 : 0);
        due.is(what + ": kind", x.state(2), kind == 0 ? 1 : kind);
        due.is(what + ": address", x.state(3), kind == 0 ? 4 : 0);
    }

    /** A load and a store of each size at an address that is made up in several ways. */
    private static void accesses(int address, int bytes, int kind) {
        for (int immediate : new int[] {0, 1, -1, 4, 2047, -2048}) {
            for (int f3 : LOADS) {
                if (1 << f3 % 4 == bytes) {
                    access(Asm.load(f3, 3, 1, immediate), address - immediate, kind);
                }
            }
            for (int f3 : STORES) {
                if (1 << f3 == bytes) {
                    access(Asm.store(f3, 2, 1, immediate), address - immediate, kind);
                }
            }
        }
    }

    private static void unevenAccesses() {
        for (int address = 0; address < 256; address++) {
            accesses(address, 1, 0);
            accesses(address, 2, address % 2 == 0 ? 0 : 6);
            accesses(address, 4, address % 4 == 0 ? 0 : 6);
        }
        // Uneven and beyond: it is uneven.
        for (int address : new int[] {-1, -3, 257, 259, MAX, MIN + 1}) {
            accesses(address, 2, 6);
            accesses(address, 4, 6);
        }
        for (int address : new int[] {-2, 258, MAX - 1, MIN + 2}) {
            accesses(address, 4, 6);
        }
    }

    private static void accessesBeyond() {
        for (int address : new int[] {256, 260, 512, 1024, 65536, MAX - 3, MIN, -256, -4}) {
            accesses(address, 1, 7);
            accesses(address, 2, 7);
            accesses(address, 4, 7);
        }
        for (int address : new int[] {258, MAX - 1, MIN + 2, -2}) {
            accesses(address, 1, 7);
            accesses(address, 2, 7);
        }
        for (int address : new int[] {257, MAX, MIN + 1, -1}) {
            accesses(address, 1, 7);
        }
        accesses(255, 1, 0);
        accesses(254, 2, 0);
        accesses(252, 4, 0);
    }

    private static void clockOfTheHalt() {
        for (int[] w : HALTING) {
            PipeWorks x = halting(Asm.NOP, w[0]);
            String what = "word " + w[0] + " at 4";
            for (int clocks = 1; clocks <= 8; clocks++) {
                int done = clocks < 5 ? 0 : 1;
                boolean halted = clocks >= 6;
                due.is(what, x.clock(1), done);
                due.state(what, x, clocks, done, halted ? w[1] : 0, halted ? 4 : 0, done - 1, clocks);
            }
        }
    }

    /** Behind it stand a store, a sum, another HALT and a way back. */
    private static void nothingBehind() {
        for (int[] w : HALTING) {
            PipeWorks x = halting(w[0], Asm.store(2, 3, 0, 0), Asm.addi(5, 0, 1), Asm.store(0, 3, 0, 4), Asm.CALL,
                    Asm.jump(6, -20));
            for (int clocks = 1; clocks <= 20; clocks++) {
                due.is("DONE", x.clock(1), 0);
                due.is("memory(0)", x.memory(0), 0);
            }
            due.state("behind word " + w[0], x, 20, 0, w[1], 0, -1, 20);
            untouched("behind word " + w[0], x);
        }
        // The words before it come to their ends, also the one just before.
        PipeWorks y = halting(Asm.addi(5, 0, 1), Asm.store(2, 5, 0, 4), Asm.addi(6, 5, 1), Asm.CALL, Asm.addi(7, 0, 1));
        due.is("before it", y.clock(200), 3);
        due.is("before it: x5", y.register(5), 1);
        due.is("before it: memory(1)", y.memory(1), 1);
        due.is("before it: x6", y.register(6), 2);
        due.is("behind it: x7", y.register(7), 0);
    }

    private static void leftWays() {
        for (int[] w : HALTING) {
            for (int jump : new int[] {Asm.jump(0, 12), Asm.branch(0, 0, 0, 12), Asm.jumpBy(0, 0, 12)}) {
                PipeWorks x = halting(jump, w[0], w[0], Asm.jump(0, 0));
                due.is("left way", x.clock(11), 3);
                due.state("left way of word " + w[0], x, 11, 3, 0, 0, 12, 11);
                untouched("left way of word " + w[0], x);
            }
        }
        PipeWorks x = halting(Asm.jump(0, 12), Asm.store(2, 4, 0, 0), Asm.addi(5, 0, 1), Asm.jump(0, 0));
        due.is("left way of a store", x.clock(20), 6);
        untouched("left way of a store", x);
        // The way beyond the words is left as well.
        PipeWorks y = halting(Asm.jump(0, 1020));
        y.word(255, Asm.jump(0, -1020));
        due.is("left way beyond", y.clock(200), 66);
        due.is("left way beyond: no HALT", y.state(2), 0);
    }
}
