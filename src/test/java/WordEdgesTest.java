/**
 * The terms up to the opcodes, at their edges: each sentence that names one has a test of its own.
 * Words are put together from their bits here, not by Asm, where the bits are what is looked at.
 */
final class WordEdgesTest {
    private static final int MIN = Integer.MIN_VALUE;
    private static final int MAX = Integer.MAX_VALUE;
    private static final int[] EDGES = {MIN, MIN + 1, -2049, -2048, -2, -1, 0, 1, 2, 2047, 2048, MAX - 1, MAX};
    private static final Due due = new Due("WordEdgesTest");

    public static void main(String[] args) {
        due.sentence("REGISTERS x0 .. x31 (ints; x0 is always 0)");
        allRegisters();
        registerZero();
        due.sentence("a WORD MEMORY of 256 words (addresses 0 .. 1023, a word at each fourth");
        allWords();
        due.sentence("stores can't write it");
        storesBesideTheWords();
        due.sentence("a DATA MEMORY of 64 words (bytes 0 .. 255, the lowest byte of a word first)");
        allBytes();
        due.sentence("All 0 at first.");
        allZeroAtFirst();
        due.sentence("I: bits 20 .. 31.");
        immediateI();
        due.sentence("S: bits 7 .. 11 and 25 .. 31 above.");
        immediateS();
        due.sentence("B: bit 0 is 0, then bits 8 .. 11, 25 .. 30, 7, 31.");
        immediateB();
        due.sentence("U: bits 12 .. 31 in their places.");
        immediateU();
        due.sentence("J: bit 0 is 0, then bits 21 .. 30, 20, 12 .. 19, 31.");
        immediateJ();
        due.sentence("23 (U): the immediate added to the word's own address PC.");
        upperToPc();
        due.sentence("111 (J): rd becomes PC + 4; it JUMPS to PC + the immediate.");
        jump();
        due.sentence("103 (I, f3 0): likewise, to rs1 + the immediate, its bit 0 cleared.");
        jumpByRegister();
        due.sentence("99 (B): .. if by f3 0 rs1 = rs2, 1 not so, 4 rs1 < rs2, 5 not so, 6 rs1 < rs2 without signs, 7 not so.");
        branches();
        due.sentence("3 (I): .. by f3 0 a byte, 1 two bytes, both with a sign, 2 a word, 4 a byte, 5 two bytes, without.");
        loads();
        due.sentence("35 (S): rs2's lowest byte (f3 0), two bytes (1), or itself (2) go there.");
        stores();
        due.sentence("by f3 0 the sum (51 with f7 32: the difference)");
        sums();
        due.sentence("2 1 if rs1 is less, else 0, 3 likewise without signs");
        lesser();
        due.sentence("4 exclusive or, 6 or, 7 and");
        bitwise();
        due.sentence("Shifts are by the lowest 5 bits.");
        shifts();
        due.sentence("With 19 f7 of f3 1 is 0, of f3 5 0 or 32");
        f7Of19();
        due.sentence("with 51 f7 is 0, or 32 with f3 0 and 5");
        f7Of51();
        due.sentence("15 (f3 0): nothing.");
        fence();
        due.sentence("115: the words 115 (CALL) and 1048691 (BREAK).");
        system();
        due.sentence("All others are ILLEGAL.");
        allOthers();
        due.end();
    }

    /** w at address 0 with x1 and x2; what it leaves in x3. */
    private static int x3(int w, int x1, int x2) {
        PipeWorks x = Asm.with(w, Asm.CALL);
        x.set(1, x1);
        x.set(2, x2);
        due.is("DONE behind " + w, x.clock(7), 1);
        return x.register(3);
    }

    private static void allRegisters() {
        PipeWorks x = new PipeWorks();
        for (int k = 1; k < 32; k++) {
            x.word(k - 1, Asm.addi(k, k - 1, k));
        }
        due.is("31 words", x.clock(35), 31);
        for (int k = 0; k < 32; k++) {
            due.is("register(" + k + ")", x.register(k), k * (k + 1) / 2);
        }
    }

    /** Each opcode that has an rd, with x0 there; the words right behind it read x0. */
    private static void registerZero() {
        int[] words = {Asm.addi(0, 0, 5), Asm.op(0, 0, 1, 1), Asm.opOther(0, 0, 0, 1), Asm.load(2, 0, 0, 0),
            Asm.load(0, 0, 0, 0), Asm.upper(55, 0, 9), Asm.upper(23, 0, 9), Asm.jump(0, 4), Asm.jumpBy(0, 0, 4)};
        for (int w : words) {
            PipeWorks x = Asm.with(w, Asm.op(0, 2, 0, 0), Asm.op(6, 3, 0, 0), Asm.addi(4, 0, 0), Asm.store(2, 0, 0, 0));
            x.data(0, 77);
            for (int k = 1; k < 5; k++) {
                x.set(k, -9);
            }
            for (int i = 0; i < 12; i++) {
                x.clock(1);
                due.is("x0 behind " + w, x.register(0), 0);
            }
            due.is("five words DONE behind " + w, x.state(1), 5);
            for (int k = 2; k < 5; k++) {
                due.is("x" + k + " from x0 behind " + w, x.register(k), 0);
            }
            due.is("x0 stored behind " + w, x.memory(0), 0);
        }
    }

    private static void allWords() {
        PipeWorks x = new PipeWorks();
        for (int k = 0; k < 256; k++) {
            x.word(k, Asm.upper(23, 1 + k % 31, 0));
        }
        x.clock(200);
        due.is("clock(60)", x.clock(60), 256);
        due.is("no HALT yet", x.state(2), 0);
        for (int k = 225; k < 256; k++) {
            due.is("the address of word " + k, x.register(1 + k % 31), 4 * k);
        }
        due.is("the last of them", x.state(4), 1020);
    }

    /** A word of the same address as a data word is not touched by a store there. */
    private static void storesBesideTheWords() {
        for (int address : new int[] {0, 4, 8, 12, 252}) {
            PipeWorks x = Asm.with(Asm.store(2, 1, 0, address), Asm.addi(2, 2, 1), Asm.addi(2, 2, 1), Asm.jump(0, 240));
            x.word(63, Asm.CALL);
            x.set(1, Asm.BREAK);
            for (int round = 1; round <= 2; round++) {
                due.is("DONE", x.clock(30), 4);
                due.state("store at " + address, x, 30, 4, 1, 252, 12, 30 * round);
                due.is("x2", x.register(2), 2 * round);
                due.is("the data", x.memory(address / 4), Asm.BREAK);
                x.reset();
            }
        }
    }

    private static void allBytes() {
        for (int address = 0; address < 256; address++) {
            PipeWorks x = Asm.with(Asm.store(0, 1, 2, 0), Asm.load(4, 3, 2, 0));
            x.set(1, 0xA5);
            x.set(2, address);
            due.is("byte " + address, x.clock(6), 2);
            due.is("byte " + address + " is there again", x.register(3), 0xA5);
            for (int k = 0; k < 64; k++) {
                int want = k == address / 4 ? 0xA5 << 8 * (address % 4) : 0;
                due.is("byte " + address + ", memory(" + k + ")", x.memory(k), want);
            }
        }
    }

    private static void allZeroAtFirst() {
        PipeWorks x = new PipeWorks();
        for (int k = 0; k < 32; k++) {
            due.is("register(" + k + ")", x.register(k), 0);
        }
        for (int k = 0; k < 64; k++) {
            due.is("memory(" + k + ")", x.memory(k), 0);
        }
        // A word can only be seen by running it; 0 is ILLEGAL.
        for (int k = 1; k < 256; k++) {
            PipeWorks y = Asm.with(Asm.jump(0, 4 * k));
            due.is("word " + k, y.clock(8), 1);
            due.state("word " + k, y, 8, 1, 3, 4 * k, 0, 8);
        }
    }

    private static void immediateI() {
        int sum = 19 | 3 << 7;
        due.is("no bit", x3(sum, 0, 0), 0);
        for (int bit = 20; bit < 31; bit++) {
            due.is("bit " + bit, x3(sum | 1 << bit, 0, 0), 1 << bit - 20);
        }
        due.is("bit 31", x3(sum | 1 << 31, 0, 0), -2048);
        due.is("all bits", x3(sum | 0xFFF00000, 0, 0), -1);
        due.is("all but the sign", x3(sum | 0x7FF00000, 0, 0), 2047);
    }

    /** x2's byte goes to 128: x1 is so much lower as the immediate is high. */
    private static void storeBy(int bits, int immediate) {
        PipeWorks x = Asm.with(35 | 1 << 15 | 2 << 20 | bits);
        x.set(1, 128 - immediate);
        x.set(2, 0x55);
        due.is("S, bits " + bits, x.clock(5), 1);
        due.is("S, bits " + bits + ", memory(32)", x.memory(32), 0x55);
    }

    private static void immediateS() {
        storeBy(0, 0);
        for (int bit = 0; bit < 5; bit++) {
            storeBy(1 << bit + 7, 1 << bit);
        }
        for (int bit = 5; bit < 11; bit++) {
            storeBy(1 << bit + 20, 1 << bit);
        }
        storeBy(1 << 31, -2048);
        storeBy(0xFE000F80, -1);
        storeBy(0x7E000F80, 2047);
    }

    /** w stands at address 0 and JUMPS by so much. */
    private static void goesBy(String what, int w, int by) {
        PipeWorks x = Asm.with(w);
        boolean inside = by >= 0 && by < 1024;
        boolean uneven = by % 4 != 0;
        if (inside && !uneven) {
            x.word(by / 4, Asm.BREAK);
        }
        x.clock(8);
        due.is(what + ": DONE", x.state(1), uneven ? 0 : 1);
        due.is(what + ": kind", x.state(2), uneven ? 5 : inside ? 2 : 4);
        due.is(what + ": address", x.state(3), uneven ? 0 : by);
    }

    private static void immediateB() {
        for (int bit = 8; bit < 12; bit++) {
            goesBy("B, bit " + bit, 99 | 1 << bit, 1 << bit - 7);
        }
        for (int bit = 25; bit < 31; bit++) {
            goesBy("B, bit " + bit, 99 | 1 << bit, 1 << bit - 20);
        }
        goesBy("B, bit 7", 99 | 1 << 7, 2048);
        goesBy("B, bit 31", 99 | 1 << 31, -4096);
        goesBy("B, all bits", 99 | 0xFE000F80, -2);
        goesBy("B, all but the sign", 99 | 0x7E000F80, 4094);
        goesBy("B, all but the sign and the lowest", 99 | 0x7E000E80, 4092);
        // No bit at all: it JUMPS to itself.
        PipeWorks x = Asm.with(99);
        due.is("B, no bit", x.clock(11), 3);
    }

    private static void immediateU() {
        for (int bit = 12; bit < 32; bit++) {
            due.is("55, bit " + bit, x3(55 | 3 << 7 | 1 << bit, 9, 9), 1 << bit);
            due.is("23, bit " + bit, x3(23 | 3 << 7 | 1 << bit, 9, 9), 1 << bit);
        }
        due.is("55, no bit", x3(55 | 3 << 7, 9, 9), 0);
        due.is("55, all bits", x3(55 | 3 << 7 | 0xFFFFF000, 9, 9), -4096);
        due.is("55, all but the sign", x3(55 | 3 << 7 | 0x7FFFF000, 9, 9), 0x7FFFF000);
    }

    private static void immediateJ() {
        for (int bit = 21; bit < 31; bit++) {
            goesBy("J, bit " + bit, 111 | 1 << bit, 1 << bit - 20);
        }
        goesBy("J, bit 20", 111 | 1 << 20, 2048);
        for (int bit = 12; bit < 20; bit++) {
            goesBy("J, bit " + bit, 111 | 1 << bit, 1 << bit);
        }
        goesBy("J, bit 31", 111 | 1 << 31, -1048576);
        goesBy("J, all bits", 111 | 0xFFFFF000, -2);
        goesBy("J, all but the sign", 111 | 0x7FFFF000, 1048574);
        goesBy("J, all but the sign and the lowest", 111 | 0x7FDFF000, 1048572);
        PipeWorks x = Asm.with(111);
        due.is("J, no bit", x.clock(11), 3);
    }

    /** w at the last address of the WORD MEMORY, where the run comes with its second word. */
    private static PipeWorks atTheLast(int w) {
        PipeWorks x = Asm.with(Asm.jump(0, 1020), Asm.CALL);
        x.word(255, w);
        return x;
    }

    private static void upperToPc() {
        int[] high = {0, 1, 0x7FFFF, 0x80000, 0xFFFFF};
        int[] want = {1020, 5116, 0x7FFFF3FC, 0x800003FC, -3076};
        for (int i = 0; i < high.length; i++) {
            PipeWorks x = atTheLast(Asm.upper(23, 3, high[i]));
            due.is("at 1020: DONE", x.clock(8), 2);
            due.is("at 1020, " + high[i], x.register(3), want[i]);
            due.is("at 0, " + high[i], x3(Asm.upper(23, 3, high[i]), 0, 0), want[i] - 1020);
        }
    }

    private static void jump() {
        PipeWorks last = atTheLast(Asm.jump(3, -1016));
        due.is("from 1020 to 4", last.clock(11), 2);
        due.state("from 1020 to 4", last, 11, 2, 1, 4, 1020, 11);
        due.is("rd at 1020", last.register(3), 1024);
        PipeWorks first = Asm.with(Asm.jump(3, -4));
        due.is("from 0 to below 0", first.clock(8), 1);
        due.state("from 0 to below 0", first, 8, 1, 4, -4, 0, 8);
        due.is("rd at 0", first.register(3), 4);
        PipeWorks self = Asm.with(Asm.jump(3, 0));
        due.is("to itself", self.clock(8), 2);
        due.state("to itself", self, 8, 2, 0, 0, 0, 8);
        PipeWorks none = Asm.with(Asm.jump(0, 1020));
        none.word(255, Asm.CALL);
        due.is("to the last", none.clock(8), 1);
        due.state("to the last", none, 8, 1, 1, 1020, 0, 8);
        due.is("rd x0", none.register(0), 0);
    }

    private static void goesTo(int x1, int immediate, int target) {
        PipeWorks x = Asm.with(Asm.jumpBy(3, 1, immediate), Asm.CALL, Asm.BREAK);
        x.word(255, Asm.BREAK);
        x.set(1, x1);
        String what = "103 by " + x1 + " and " + immediate;
        due.is(what, x.clock(8), 1);
        due.is(what + ": kind", x.state(2), target < 0 || target > 1023 ? 4 : target == 4 ? 1 : 2);
        due.is(what + ": address", x.state(3), target);
        due.is(what + ": rd", x.register(3), 4);
    }

    private static void jumpByRegister() {
        goesTo(4, 0, 4);
        goesTo(4, 1, 4);
        goesTo(5, 0, 4);
        goesTo(3, 1, 4);
        goesTo(-4, 8, 4);
        goesTo(-3, 8, 4);
        goesTo(2056, -2048, 8);
        goesTo(-2039, 2047, 8);
        goesTo(-1027, 2047, 1020);
        goesTo(1021, 0, 1020);
        goesTo(1020, 4, 1024);
        goesTo(0, -4, -4);
        goesTo(-1, -2, -4);
        goesTo(MAX, 1, MIN);
        goesTo(MAX, 2, MIN);
        goesTo(MIN, -4, MAX - 3);
        goesTo(MIN, -3, MAX - 3);
        PipeWorks same = Asm.with(Asm.jumpBy(1, 1, 0), Asm.CALL, Asm.BREAK);
        same.set(1, 8);
        due.is("rd is rs1", same.clock(8), 1);
        due.state("rd is rs1", same, 8, 1, 2, 8, 0, 8);
        due.is("x1", same.register(1), 4);
    }

    private static void branch(int f3, int a, int b, boolean jumps) {
        PipeWorks x = Asm.with(Asm.branch(f3, 1, 2, 8), Asm.CALL, Asm.BREAK);
        x.set(1, a);
        x.set(2, b);
        String what = "f3 " + f3 + ": " + a + ", " + b;
        due.is(what, x.clock(8), 1);
        due.is(what + ": kind", x.state(2), jumps ? 2 : 1);
        due.is(what + ": address", x.state(3), jumps ? 8 : 4);
    }

    private static void branches() {
        for (int a : EDGES) {
            for (int b : EDGES) {
                int signed = Integer.compare(a, b);
                int plain = Integer.compareUnsigned(a, b);
                branch(0, a, b, signed == 0);
                branch(1, a, b, signed != 0);
                branch(4, a, b, signed < 0);
                branch(5, a, b, signed >= 0);
                branch(6, a, b, plain < 0);
                branch(7, a, b, plain >= 0);
            }
        }
    }

    private static int loaded(int f3, int at, int value) {
        PipeWorks x = Asm.with(Asm.load(f3, 3, 0, at));
        x.data(63, value);
        due.is("DONE", x.clock(5), 1);
        return x.register(3);
    }

    private static void loads() {
        for (int low : new int[] {0, 1, 0x7F, 0x80, 0xFF}) {
            for (int at = 252; at < 256; at++) {
                int alone = low << 8 * (at - 252);
                int signed = low < 128 ? low : low - 256;
                due.is("byte " + low + " at " + at, loaded(0, at, alone), signed);
                due.is("byte " + low + " at " + at + ", others set", loaded(0, at, alone | ~(255 << 8 * (at - 252))), signed);
                due.is("byte " + low + " at " + at + ", no sign", loaded(4, at, alone), low);
                due.is("byte " + low + " at " + at + ", no sign, others set",
                        loaded(4, at, alone | ~(255 << 8 * (at - 252))), low);
            }
        }
        for (int low : new int[] {0, 1, 0x7F, 0x80, 0xFF, 0x100, 0x7FFF, 0x8000, 0x8001, 0xFFFF}) {
            int signed = low < 32768 ? low : low - 65536;
            due.is("two bytes " + low + " at 252", loaded(1, 252, low), signed);
            due.is("two bytes " + low + " at 254", loaded(1, 254, low << 16), signed);
            due.is("two bytes " + low + " at 252, others set", loaded(1, 252, low | 0xFFFF0000), signed);
            due.is("two bytes " + low + " at 252, no sign", loaded(5, 252, low), low);
            due.is("two bytes " + low + " at 252, no sign, others set", loaded(5, 252, low | 0xFFFF0000), low);
            due.is("two bytes " + low + " at 254, no sign", loaded(5, 254, low << 16 | 0xFFFF), low);
        }
        for (int value : EDGES) {
            due.is("word " + value, loaded(2, 252, value), value);
        }
    }

    private static int stored(int f3, int at, int value, int before) {
        PipeWorks x = Asm.with(Asm.store(f3, 1, 0, at));
        x.set(1, value);
        x.data(62, before);
        x.data(63, before);
        x.data(0, before);
        due.is("DONE", x.clock(5), 1);
        due.is("x1 stays", x.register(1), value);
        due.is("the word before stays", x.memory(62), before);
        due.is("the first word stays", x.memory(0), before);
        return x.memory(63);
    }

    private static void stores() {
        for (int value : new int[] {0, -1, 0x80, 0xFF, 0x100, 0xFFFF, 0x10000, MIN, MAX, 0x12345678}) {
            for (int before : new int[] {0, -1, 0x0F1E2D3C}) {
                for (int i = 0; i < 4; i++) {
                    int kept = before & ~(255 << 8 * i);
                    int want = kept | Math.floorMod(value, 256) << 8 * i;
                    due.is("byte of " + value + " at " + (252 + i), stored(0, 252 + i, value, before), want);
                }
                int low = Math.floorMod(value, 65536);
                due.is("two bytes of " + value + " at 252", stored(1, 252, value, before), before & 0xFFFF0000 | low);
                due.is("two bytes of " + value + " at 254", stored(1, 254, value, before), before & 0xFFFF | low << 16);
                due.is("word " + value + " at 252", stored(2, 252, value, before), value);
            }
        }
    }

    private static void sums() {
        for (int a : EDGES) {
            for (int b : EDGES) {
                due.is("51: " + a + " + " + b, x3(Asm.op(0, 3, 1, 2), a, b), (int) ((long) a + b));
                due.is("51: " + a + " - " + b, x3(Asm.opOther(0, 3, 1, 2), a, b), (int) ((long) a - b));
                if (b >= -2048 && b < 2048) {
                    due.is("19: " + a + " + " + b, x3(Asm.opI(0, 3, 1, b), a, 0), (int) ((long) a + b));
                }
            }
            // What is f7 32 with 51 is 1024 of the immediate with 19.
            due.is("19: " + a + " + 1024", x3(Asm.opI(0, 3, 1, 1024), a, 0), (int) (a + 1024L));
        }
    }

    private static void lesser() {
        for (int a : EDGES) {
            for (int b : EDGES) {
                int signed = (long) a < (long) b ? 1 : 0;
                int plain = (a & 0xFFFFFFFFL) < (b & 0xFFFFFFFFL) ? 1 : 0;
                due.is("51: " + a + " < " + b, x3(Asm.op(2, 3, 1, 2), a, b), signed);
                due.is("51: " + a + " < " + b + " without signs", x3(Asm.op(3, 3, 1, 2), a, b), plain);
                if (b >= -2048 && b < 2048) {
                    due.is("19: " + a + " < " + b, x3(Asm.opI(2, 3, 1, b), a, 0), signed);
                    due.is("19: " + a + " < " + b + " without signs", x3(Asm.opI(3, 3, 1, b), a, 0), plain);
                }
            }
        }
    }

    private static void bitwise() {
        for (int a : EDGES) {
            for (int b : EDGES) {
                int and = ~(~a | ~b);
                due.is("51: " + a + " xor " + b, x3(Asm.op(4, 3, 1, 2), a, b), (a | b) - and);
                due.is("51: " + a + " or " + b, x3(Asm.op(6, 3, 1, 2), a, b), a + b - and);
                due.is("51: " + a + " and " + b, x3(Asm.op(7, 3, 1, 2), a, b), and);
                if (b >= -2048 && b < 2048) {
                    due.is("19: " + a + " xor " + b, x3(Asm.opI(4, 3, 1, b), a, 0), (a | b) - and);
                    due.is("19: " + a + " or " + b, x3(Asm.opI(6, 3, 1, b), a, 0), a + b - and);
                    due.is("19: " + a + " and " + b, x3(Asm.opI(7, 3, 1, b), a, 0), and);
                }
            }
        }
    }

    private static void shifts() {
        for (int a : new int[] {0, 1, -1, MIN, MAX, 0x40000001, 0xC0000003}) {
            for (int by : new int[] {0, 1, 30, 31, 32, 33, 63, 64, -1, -31, -32, MIN, MAX}) {
                int steps = Math.floorMod(by, 32);
                int left = a;
                long plain = a & 0xFFFFFFFFL;
                int signed = a;
                for (int i = 0; i < steps; i++) {
                    left += left;
                    plain /= 2;
                    signed = Math.floorDiv(signed, 2);
                }
                String what = a + " by " + by;
                due.is("51, left: " + what, x3(Asm.op(1, 3, 1, 2), a, by), left);
                due.is("51, right: " + what, x3(Asm.op(5, 3, 1, 2), a, by), (int) plain);
                due.is("51, right with the sign: " + what, x3(Asm.opOther(5, 3, 1, 2), a, by), signed);
                due.is("19, left: " + what, x3(Asm.opI(1, 3, 1, steps), a, 0), left);
                due.is("19, right: " + what, x3(Asm.opI(5, 3, 1, steps), a, 0), (int) plain);
                due.is("19, right with the sign: " + what, x3(Asm.opI(5, 3, 1, steps + 1024), a, 0), signed);
            }
        }
    }

    /** w at address 0 is ILLEGAL, or not, and leaves x3 alone if so. */
    private static void illegal(String what, int w, boolean want) {
        PipeWorks x = Asm.with(w);
        x.set(3, 17);
        x.clock(5);
        due.is(what + ": ILLEGAL", x.state(2) == 3, want);
        if (want) {
            due.state(what, x, 5, 0, 3, 0, -1, 5);
            due.is(what + ": x3", x.register(3), 17);
        }
    }

    private static void f7Of19() {
        for (int f7 = 0; f7 < 128; f7++) {
            for (int f3 = 0; f3 < 8; f3++) {
                boolean legal = f3 == 1 ? f7 == 0 : f3 != 5 || f7 == 0 || f7 == 32;
                illegal("19, f3 " + f3 + ", f7 " + f7, Asm.r(19, f3, f7, 3, 1, 2), !legal);
            }
        }
    }

    private static void f7Of51() {
        for (int f7 = 0; f7 < 128; f7++) {
            for (int f3 = 0; f3 < 8; f3++) {
                boolean legal = f7 == 0 || f7 == 32 && (f3 == 0 || f3 == 5);
                illegal("51, f3 " + f3 + ", f7 " + f7, Asm.r(51, f3, f7, 3, 1, 2), !legal);
            }
        }
    }

    private static void fence() {
        for (int f3 = 1; f3 < 8; f3++) {
            illegal("15, f3 " + f3, Asm.r(15, f3, 0, 3, 0, 0), true);
        }
        for (int bit = 7; bit < 32; bit++) {
            boolean ofF3 = bit >= 12 && bit < 15;
            PipeWorks x = Asm.with(15 | 3 << 7 | (ofF3 ? 0 : 1 << bit), Asm.CALL);
            for (int k = 1; k < 32; k++) {
                x.set(k, 17 * k);
            }
            due.is("15, bit " + bit, x.clock(6), 1);
            due.state("15, bit " + bit, x, 6, 1, 1, 4, 0, 6);
            for (int k = 0; k < 32; k++) {
                due.is("15, bit " + bit + ": x" + k, x.register(k), 17 * k);
            }
            due.is("15, bit " + bit + ": memory(0)", x.memory(0), 0);
        }
    }

    private static void system() {
        for (int bit = 7; bit < 32; bit++) {
            illegal("115 but for bit " + bit, 115 ^ 1 << bit, bit != 20);
            illegal("1048691 but for bit " + bit, 1048691 ^ 1 << bit, bit != 20);
        }
        PipeWorks call = Asm.with(115);
        call.clock(5);
        due.state("CALL", call, 5, 0, 1, 0, -1, 5);
        PipeWorks stop = Asm.with(1048691);
        stop.clock(5);
        due.state("BREAK", stop, 5, 0, 2, 0, -1, 5);
    }

    private static void allOthers() {
        for (int opcode = 0; opcode < 128; opcode++) {
            boolean known = opcode == 55 || opcode == 23 || opcode == 111 || opcode == 103 || opcode == 99 || opcode == 3
                    || opcode == 35 || opcode == 19 || opcode == 51 || opcode == 15;
            illegal("opcode " + opcode, opcode | 3 << 7, !known);
        }
        for (int f3 = 0; f3 < 8; f3++) {
            illegal("103, f3 " + f3, Asm.r(103, f3, 0, 3, 0, 0), f3 != 0);
            illegal("99, f3 " + f3, Asm.r(99, f3, 0, 8, 0, 0), f3 == 2 || f3 == 3);
            illegal("3, f3 " + f3, Asm.r(3, f3, 0, 3, 0, 0), f3 == 3 || f3 == 6 || f3 == 7);
            illegal("35, f3 " + f3, Asm.r(35, f3, 0, 0, 0, 3), f3 > 2);
            illegal("55, f3 " + f3, Asm.r(55, f3, 0, 3, 0, 0), false);
            illegal("23, f3 " + f3, Asm.r(23, f3, 0, 3, 0, 0), false);
            illegal("111, f3 " + f3, Asm.r(111, f3, 0, 3, 0, 0), false);
            illegal("115, f3 " + f3, Asm.r(115, f3, 0, 0, 0, 0), f3 != 0);
        }
        for (int w : new int[] {0, -1, MIN, MAX}) {
            illegal("the word " + w, w, true);
        }
    }
}
