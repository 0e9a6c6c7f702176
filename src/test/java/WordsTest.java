/** The terms: what each word does to registers, data memory and the way of the run. */
final class WordsTest {
    private static final int MIN = Integer.MIN_VALUE;
    private static final int MAX = Integer.MAX_VALUE;
    private static final Due due = new Due("WordsTest");

    public static void main(String[] args) {
        withRegisters();
        withImmediates();
        uppers();
        branches();
        jumps();
        farJumps();
        loads();
        stores();
        registerZero();
        fences();
        wordsCannotBeStoredTo();
        due.end();
    }

    private static int result(int w, int x1, int x2) {
        PipeWorks x = Asm.with(w, Asm.CALL);
        x.set(1, x1);
        x.set(2, x2);
        due.is("DONE", x.clock(9), 1);
        due.state("behind " + w, x, 9, 1, 1, 4, 0, 9);
        due.is("x1", x.register(1), x1);
        due.is("x2", x.register(2), x2);
        return x.register(3);
    }

    private static void reg(int f3, int f7, int a, int b, int want) {
        due.is("51, f3 " + f3 + ", f7 " + f7 + ": " + a + ", " + b, result(Asm.r(51, f3, f7, 3, 1, 2), a, b), want);
    }

    private static void withRegisters() {
        reg(0, 0, 5, -7, -2);
        reg(0, 0, MAX, 1, MIN);
        reg(0, 32, 5, -7, 12);
        reg(0, 32, MIN, 1, MAX);
        reg(1, 0, 3, 4, 48);
        reg(1, 0, 3, 31, MIN);
        reg(1, 0, 3, 32, 3);
        reg(1, 0, 3, -31, 6);
        reg(2, 0, -1, 0, 1);
        reg(2, 0, 0, -1, 0);
        reg(2, 0, 4, 4, 0);
        reg(2, 0, MIN, MAX, 1);
        reg(3, 0, -1, 0, 0);
        reg(3, 0, 0, -1, 1);
        reg(3, 0, 4, 4, 0);
        reg(3, 0, MAX, MIN, 1);
        reg(3, 0, 4, 5, 1);
        reg(4, 0, 0b1100, 0b1010, 0b0110);
        reg(5, 0, -16, 2, 0x3FFFFFFC);
        reg(5, 0, -16, 34, 0x3FFFFFFC);
        reg(5, 0, MIN, 31, 1);
        reg(5, 32, -16, 2, -4);
        reg(5, 32, MIN, 31, -1);
        reg(5, 32, MAX, 33, MAX / 2);
        reg(6, 0, 0b1100, 0b1010, 0b1110);
        reg(7, 0, 0b1100, 0b1010, 0b1000);
    }

    private static void imm(int f3, int a, int immediate, int want) {
        due.is("19, f3 " + f3 + ": " + a + ", " + immediate, result(Asm.opI(f3, 3, 1, immediate), a, 99), want);
    }

    private static void withImmediates() {
        imm(0, 5, 2047, 2052);
        imm(0, 5, -2048, -2043);
        // Bit 30 is of the immediate here, no f7: it stays a sum.
        imm(0, 5, 1024, 1029);
        imm(0, 5, 1025, 1030);
        imm(1, 3, 4, 48);
        imm(1, 3, 31, MIN);
        imm(2, -5, -4, 1);
        imm(2, -4, -4, 0);
        imm(2, 1, -4, 0);
        imm(3, 1, -4, 1);
        imm(3, -3, -4, 0);
        imm(3, -1, 2047, 0);
        imm(4, 0x0F0F, -1, ~0x0F0F);
        imm(4, 0x0F0F, 1024, 0x0B0F);
        imm(5, -16, 2, 0x3FFFFFFC);
        imm(5, -16, 2 + 1024, -4);
        imm(5, MIN, 31 + 1024, -1);
        imm(5, MIN, 31, 1);
        imm(5, MIN, 0, MIN);
        imm(6, 0x70F0, -2048, 0xFFFFF8F0);
        imm(6, 0x70F0, 1024, 0x74F0);
        imm(7, 0x7FF0, -2048, 0x7800);
        imm(7, 0x7FF0, 1024, 0x0400);
    }

    private static void uppers() {
        due.is("55", result(Asm.upper(55, 3, 0x12345), 0, 0), 0x12345000);
        due.is("55, sign", result(Asm.upper(55, 3, 0xFFFFF), 0, 0), -4096);
        due.is("55, high bit", result(Asm.upper(55, 3, 0x80000), 0, 0), MIN);
        due.is("23 at 0", result(Asm.upper(23, 3, 0x12345), 0, 0), 0x12345000);
        PipeWorks x = Asm.with(Asm.NOP, Asm.NOP, Asm.upper(23, 3, 0xFFFFF), Asm.upper(23, 4, 1), Asm.CALL);
        x.clock(20);
        due.is("23 at 8", x.register(3), -4096 + 8);
        due.is("23 at 12", x.register(4), 4096 + 12);
    }

    private static void branch(int f3, int a, int b, boolean jumps) {
        PipeWorks x = Asm.with(Asm.branch(f3, 1, 2, 12), Asm.addi(3, 0, 1), Asm.CALL, Asm.addi(3, 3, 2), Asm.BREAK);
        x.set(1, a);
        x.set(2, b);
        due.is("99, f3 " + f3 + ": " + a + ", " + b + ": DONE", x.clock(30), 2);
        due.state("99, f3 " + f3 + ": " + a + ", " + b, x, 30, 2, jumps ? 2 : 1, jumps ? 16 : 8, jumps ? 12 : 4, 30);
        due.is("99: x3", x.register(3), jumps ? 2 : 1);
    }

    private static void branches() {
        int[][] pairs = {{0, 0}, {1, 2}, {2, 1}, {-1, 1}, {1, -1}, {MIN, MAX}, {MAX, MIN}, {MIN, MIN}, {-2, -1}, {-1, -2}};
        for (int[] p : pairs) {
            branch(0, p[0], p[1], p[0] == p[1]);
            branch(1, p[0], p[1], p[0] != p[1]);
            branch(4, p[0], p[1], p[0] < p[1]);
            branch(5, p[0], p[1], p[0] >= p[1]);
            branch(6, p[0], p[1], (p[0] & 0xFFFFFFFFL) < (p[1] & 0xFFFFFFFFL));
            branch(7, p[0], p[1], (p[0] & 0xFFFFFFFFL) >= (p[1] & 0xFFFFFFFFL));
        }
    }

    private static void jumps() {
        PipeWorks x = Asm.with(Asm.jump(1, 12), Asm.addi(9, 9, 1), Asm.CALL,
                Asm.jumpBy(1, 1, 3), Asm.CALL);
        // From 12 to x1 + 3 = 7, bit 0 cleared: 6, no multiple of 4.
        x.clock(30);
        due.state("103 to 6", x, 30, 1, 5, 12, 0, 30);
        due.is("x1 is as 111 left it", x.register(1), 4);
        x.reset();
        x.word(3, Asm.jumpBy(1, 1, 1));
        due.is("clock(30)", x.clock(30), 3);
        due.state("103 to 5", x, 30, 3, 1, 8, 4, 60);
        due.is("x1 of 103", x.register(1), 16);
        due.is("x9", x.register(9), 1);
        // To itself: one word DONE each three clocks.
        PipeWorks y = Asm.with(Asm.jump(2, 0));
        due.is("to itself", y.clock(11), 3);
        due.state("to itself", y, 11, 3, 0, 0, 0, 11);
        due.is("x2", y.register(2), 4);
        // rd is rs1: it goes where rs1 was.
        PipeWorks z = Asm.with(Asm.jumpBy(5, 5, -8), Asm.CALL, Asm.BREAK);
        z.set(5, 16);
        due.is("clock(30)", z.clock(30), 1);
        due.state("103, rd is rs1", z, 30, 1, 2, 8, 0, 30);
        due.is("x5", z.register(5), 4);
        // Nothing behind the word that JUMPS is done, not even a store.
        PipeWorks s = Asm.with(Asm.jump(0, 12), Asm.store(2, 1, 0, 0), Asm.addi(2, 0, 1), Asm.CALL);
        s.set(1, 77);
        s.clock(30);
        due.is("left way, memory", s.memory(0), 0);
        due.is("left way, register", s.register(2), 0);
    }

    /** Every bit of the immediates of J and B, with both signs. */
    private static void farJumps() {
        for (int bit = 2; bit <= 9; bit++) {
            int offset = 1 << bit;
            PipeWorks x = Asm.with(Asm.jump(1, offset));
            x.word(offset / 4, Asm.CALL);
            due.is("J " + offset, x.clock(20), 1);
            due.state("J " + offset, x, 20, 1, 1, offset, 0, 20);
            PipeWorks y = Asm.with(Asm.branch(0, 0, 0, offset));
            y.word(offset / 4, Asm.CALL);
            due.is("B " + offset, y.clock(20), 1);
            due.state("B " + offset, y, 20, 1, 1, offset, 0, 20);
            int back = 1020 - offset;
            PipeWorks z = Asm.with(Asm.jump(1, 1020));
            z.word(255, Asm.jump(2, -offset));
            z.word(back / 4, Asm.CALL);
            due.is("J -" + offset, z.clock(20), 2);
            due.state("J -" + offset, z, 20, 2, 1, back, 1020, 20);
            due.is("J -" + offset + " rd", z.register(2), 1024);
            z.reset();
            z.word(255, Asm.branch(5, 0, 0, -offset));
            due.is("B -" + offset, z.clock(20), 2);
            due.state("B -" + offset, z, 20, 2, 1, back, 1020, 40);
        }
        for (int bit = 10; bit <= 20; bit++) {
            int offset = bit == 20 ? -(1 << 20) : 1 << bit;
            PipeWorks x = Asm.with(Asm.jump(1, offset));
            due.is("J " + offset, x.clock(20), 1);
            due.state("J " + offset, x, 20, 1, 4, offset, 0, 20);
        }
        for (int bit = 10; bit <= 12; bit++) {
            int offset = bit == 12 ? -4096 : 1 << bit;
            PipeWorks x = Asm.with(Asm.branch(0, 0, 0, offset));
            due.is("B " + offset, x.clock(20), 1);
            due.state("B " + offset, x, 20, 1, 4, offset, 0, 20);
        }
    }

    private static int loaded(int f3, int address) {
        PipeWorks x = Asm.with(Asm.load(f3, 3, 1, address - 100), Asm.CALL);
        x.set(1, 100);
        x.data(0, 0x84838281);
        x.data(1, 0x14131211);
        x.data(63, 0xF4F30201);
        due.is("DONE", x.clock(9), 1);
        return x.register(3);
    }

    private static void loads() {
        int[] bytes = {0x81, 0x82, 0x83, 0x84, 0x11, 0x12, 0x13, 0x14};
        for (int a = 0; a < 8; a++) {
            due.is("byte at " + a, loaded(0, a), (byte) bytes[a]);
            due.is("byte without a sign at " + a, loaded(4, a), bytes[a]);
        }
        for (int a = 0; a < 8; a += 2) {
            due.is("two bytes at " + a, loaded(1, a), (short) (bytes[a] + bytes[a + 1] * 256));
            due.is("two bytes without a sign at " + a, loaded(5, a), bytes[a] + bytes[a + 1] * 256);
        }
        due.is("word at 0", loaded(2, 0), 0x84838281);
        due.is("word at 4", loaded(2, 4), 0x14131211);
        due.is("word at 252", loaded(2, 252), 0xF4F30201);
        due.is("two bytes at 254", loaded(5, 254), 0xF4F3);
        due.is("byte at 255", loaded(4, 255), 0xF4);
    }

    private static void stored(int f3, int address, int cell, int want) {
        PipeWorks x = Asm.with(Asm.store(f3, 2, 1, address - 128), Asm.CALL);
        x.set(1, 128);
        x.set(2, 0xA4A3A2A1);
        for (int k = 0; k < 64; k++) {
            x.data(k, 0x11223344);
        }
        due.is("DONE", x.clock(9), 1);
        for (int k = 0; k < 64; k++) {
            due.is("store f3 " + f3 + " at " + address + ": memory(" + k + ")", x.memory(k), k == cell ? want : 0x11223344);
        }
    }

    private static void stores() {
        stored(0, 0, 0, 0x112233A1);
        stored(0, 1, 0, 0x1122A144);
        stored(0, 2, 0, 0x11A13344);
        stored(0, 3, 0, 0xA1223344);
        stored(0, 255, 63, 0xA1223344);
        stored(1, 4, 1, 0x1122A2A1);
        stored(1, 6, 1, 0xA2A13344);
        stored(1, 254, 63, 0xA2A13344);
        stored(2, 0, 0, 0xA4A3A2A1);
        stored(2, 128, 32, 0xA4A3A2A1);
        stored(2, 252, 63, 0xA4A3A2A1);
    }

    private static void registerZero() {
        PipeWorks x = Asm.with(Asm.addi(0, 0, 5), Asm.addi(1, 0, 1), Asm.load(2, 0, 0, 0), Asm.op(0, 2, 0, 0),
                Asm.upper(55, 0, 9), Asm.upper(23, 0, 9), Asm.jump(0, 4), Asm.jumpBy(0, 0, 32), Asm.op(6, 3, 0, 1),
                Asm.CALL);
        x.data(0, 12345);
        due.is("x0: DONE", x.clock(30), 9);
        due.is("x0", x.register(0), 0);
        due.is("x1", x.register(1), 1);
        due.is("x2", x.register(2), 0);
        due.is("x3", x.register(3), 1);
    }

    private static void fences() {
        int[] words = {15, Asm.r(15, 0, 127, 31, 31, 31), Asm.r(15, 0, 0, 1, 1, 1), Asm.CALL};
        PipeWorks x = Asm.with(words);
        x.set(1, 5);
        x.set(31, 6);
        due.is("15: DONE", x.clock(7), 3);
        due.is("x1", x.register(1), 5);
        due.is("x31", x.register(31), 6);
    }

    private static void wordsCannotBeStoredTo() {
        PipeWorks x = Asm.with(Asm.store(2, 1, 0, 8), Asm.NOP, Asm.addi(2, 0, 2), Asm.CALL);
        x.set(1, Asm.addi(2, 0, 3));
        x.clock(30);
        x.reset();
        x.clock(30);
        due.is("x2", x.register(2), 2);
        due.is("memory(2)", x.memory(2), Asm.addi(2, 0, 3));
    }
}
