import java.util.NoSuchElementException;

/**
 * A processor of five stages, seen clock by clock.
 *
 * A word waits only in DECODE, so of all words in flight the one in MEMORY needs just the one
 * in WRITE to end before it: a word is worked out whole in its clock in MEMORY, when everything
 * before it has come back to registers, and only what it brings to rd is held for one clock more.
 */
public final class PipeWorks {
    public static final int NONE = -1;

    private static final int WORDS = 256;
    private static final int CELLS = 64;
    private static final int REGISTERS = 32;
    private static final int LAST_WORD_BYTE = 1023;
    private static final int LAST_CELL_BYTE = 255;
    private static final int MOST_CLOCKS_A_CALL = 200;
    private static final int MOST_CLOCKS_IN_ALL = 20000;
    private static final int FIRST_MEMORY_CLOCK = 4;

    private static final int UPPER = 55;
    private static final int UPPER_TO_PC = 23;
    private static final int JUMP = 111;
    private static final int JUMP_BY_REGISTER = 103;
    private static final int BRANCH = 99;
    private static final int LOAD = 3;
    private static final int STORE = 35;
    private static final int WITH_IMMEDIATE = 19;
    private static final int WITH_REGISTER = 51;
    private static final int FENCE = 15;
    private static final int SYSTEM = 115;

    private static final int CALL_WORD = 115;
    private static final int BREAK_WORD = 1048691;

    private static final int NO_HALT = 0;
    private static final int HALT_CALL = 1;
    private static final int HALT_BREAK = 2;
    private static final int HALT_ILLEGAL = 3;
    private static final int HALT_BEYOND_WORDS = 4;
    private static final int HALT_UNEVEN_JUMP = 5;
    private static final int HALT_UNEVEN_ACCESS = 6;
    private static final int HALT_BEYOND_CELLS = 7;

    private final int[] words;
    private final int[] cells;
    private final int[] registers;

    private int clocksInAll;
    private int clocks;
    private int wordsDone;
    private int latestDone;
    private int haltKind;
    private int haltAddress;

    /** The word that goes to MEMORY next, and the clock in which it does. */
    private int pc;
    private int memoryClock;

    /** The word that is in WRITE with the next clock, if there is one. */
    private boolean writePending;
    private int writeAddress;
    private int writeHalt;
    private int writeRegister;
    private int writeValue;

    public PipeWorks() {
        words = new int[WORDS];
        cells = new int[CELLS];
        registers = new int[REGISTERS];
        clocksInAll = 0;
        toBeginning();
    }

    public boolean word(int k, int w) {
        if (k < 0 || k >= WORDS || clocks != 0) {
            return false;
        }
        words[k] = w;
        return true;
    }

    public boolean data(int k, int v) {
        if (k < 0 || k >= CELLS || clocks != 0) {
            return false;
        }
        cells[k] = v;
        return true;
    }

    public boolean set(int k, int v) {
        if (k < 1 || k >= REGISTERS || clocks != 0) {
            return false;
        }
        registers[k] = v;
        return true;
    }

    public void reset() {
        toBeginning();
    }

    public int clock(int n) throws IllegalArgumentException, IllegalStateException {
        if (n < 1 || n > MOST_CLOCKS_A_CALL) {
            throw new IllegalArgumentException("n is not 1 .. 200");
        }
        if (clocksInAll + n > MOST_CLOCKS_IN_ALL) {
            throw new IllegalStateException("more clocks than 20000 in all");
        }
        for (int i = 0; i < n; i++) {
            oneClock();
        }
        return wordsDone;
    }

    public int register(int k) throws NoSuchElementException {
        if (k < 0 || k >= REGISTERS) {
            throw new NoSuchElementException("no such register");
        }
        return registers[k];
    }

    public int memory(int k) throws NoSuchElementException {
        if (k < 0 || k >= CELLS) {
            throw new NoSuchElementException("no such word of the data memory");
        }
        return cells[k];
    }

    public int state(int what) {
        switch (what) {
            case 0: return clocks;
            case 1: return wordsDone;
            case 2: return haltKind;
            case 3: return haltAddress;
            case 4: return latestDone;
            case 5: return clocksInAll;
            default: return NONE;
        }
    }

    private void toBeginning() {
        clocks = 0;
        wordsDone = 0;
        latestDone = NONE;
        haltKind = NO_HALT;
        haltAddress = 0;
        pc = 0;
        memoryClock = FIRST_MEMORY_CLOCK;
        writePending = false;
    }

    private void oneClock() {
        clocks++;
        clocksInAll++;
        // WRITE before MEMORY: the word in MEMORY is worked out from what all before it have written.
        if (writePending) {
            endWrite();
        }
        if (clocks == memoryClock) {
            endMemory();
        }
    }

    private void endWrite() {
        writePending = false;
        if (writeHalt != NO_HALT) {
            haltKind = writeHalt;
            haltAddress = writeAddress;
            return;
        }
        if (writeRegister != 0) {
            registers[writeRegister] = writeValue;
        }
        wordsDone++;
        latestDone = writeAddress;
    }

    /** A word that HALTS leaves memoryClock behind the clocks, so that no word ever comes after it. */
    private void endMemory() {
        int w = wordAt(pc);
        writePending = true;
        writeAddress = pc;
        writeHalt = haltOf(w);
        if (writeHalt == NO_HALT) {
            writeRegister = Word.writesRd(w) ? Word.rd(w) : 0;
            writeValue = resultOf(w);
            if (Word.opcode(w) == STORE) {
                storeAt(addressOf(w), Word.f3(w), rs2Of(w));
            }
            goOn(w);
        }
    }

    private void goOn(int w) {
        if (jumps(w)) {
            pc = targetOf(w);
            memoryClock += 3;
        } else {
            pc += 4;
            memoryClock += Word.waitsFor(wordAt(pc), w) ? 2 : 1;
        }
    }

    /** Beyond the WORD MEMORY lies 0, which is ILLEGAL and so reads nothing either. */
    private int wordAt(int address) {
        return isBeyond(address, LAST_WORD_BYTE) ? 0 : words[address >> 2];
    }

    private int haltOf(int w) {
        if (isBeyond(pc, LAST_WORD_BYTE)) {
            return HALT_BEYOND_WORDS;
        }
        if (!Word.isLegal(w)) {
            return HALT_ILLEGAL;
        }
        switch (Word.opcode(w)) {
            case SYSTEM:
                return w == CALL_WORD ? HALT_CALL : HALT_BREAK;
            case JUMP:
            case JUMP_BY_REGISTER:
            case BRANCH:
                return jumps(w) && (targetOf(w) & 3) != 0 ? HALT_UNEVEN_JUMP : NO_HALT;
            case LOAD:
            case STORE:
                return haltOfAccess(addressOf(w), Word.accessBytes(w));
            default:
                return NO_HALT;
        }
    }

    private static int haltOfAccess(int address, int bytes) {
        if ((address & (bytes - 1)) != 0) {
            return HALT_UNEVEN_ACCESS;
        }
        return isBeyond(address, LAST_CELL_BYTE) ? HALT_BEYOND_CELLS : NO_HALT;
    }

    /** Addresses have no sign: one below 0 lies far beyond. */
    private static boolean isBeyond(int address, int last) {
        return address < 0 || address > last;
    }

    private boolean jumps(int w) {
        switch (Word.opcode(w)) {
            case JUMP:
            case JUMP_BY_REGISTER:
                return true;
            case BRANCH:
                return Reckoning.branches(Word.f3(w), rs1Of(w), rs2Of(w));
            default:
                return false;
        }
    }

    private int targetOf(int w) {
        switch (Word.opcode(w)) {
            case JUMP: return pc + Word.immediateJ(w);
            case JUMP_BY_REGISTER: return (rs1Of(w) + Word.immediateI(w)) & ~1;
            default: return pc + Word.immediateB(w);
        }
    }

    private int addressOf(int w) {
        return rs1Of(w) + (Word.opcode(w) == STORE ? Word.immediateS(w) : Word.immediateI(w));
    }

    private int rs1Of(int w) {
        return registers[Word.rs1(w)];
    }

    private int rs2Of(int w) {
        return registers[Word.rs2(w)];
    }

    private int resultOf(int w) {
        switch (Word.opcode(w)) {
            case UPPER:
                return Word.immediateU(w);
            case UPPER_TO_PC:
                return pc + Word.immediateU(w);
            case JUMP:
            case JUMP_BY_REGISTER:
                return pc + 4;
            case LOAD:
                return loadAt(addressOf(w), Word.f3(w));
            case WITH_IMMEDIATE:
                // Only a shift has an f7 here; elsewhere those bits belong to the immediate.
                return Reckoning.result(Word.f3(w), Word.f3(w) == 5 && Word.f7(w) == 32,
                        rs1Of(w), Word.immediateI(w));
            case WITH_REGISTER:
                return Reckoning.result(Word.f3(w), Word.f7(w) == 32, rs1Of(w), rs2Of(w));
            default:
                return 0;
        }
    }

    private int loadAt(int address, int f3) {
        int from = cells[cellOf(address)] >>> shiftOf(address);
        switch (f3) {
            case 0: return (byte) from;
            case 1: return (short) from;
            case 4: return from & 0xFF;
            case 5: return from & 0xFFFF;
            default: return from;
        }
    }

    private void storeAt(int address, int f3, int value) {
        int mask = f3 == 0 ? 0xFF : f3 == 1 ? 0xFFFF : -1;
        int cell = cellOf(address);
        int shift = shiftOf(address);
        cells[cell] = cells[cell] & ~(mask << shift) | (value & mask) << shift;
    }

    /** A word that goes beyond has HALTED before; the mask keeps the index safe by itself. */
    private static int cellOf(int address) {
        return (address & LAST_CELL_BYTE) >> 2;
    }

    private static int shiftOf(int address) {
        return (address & 3) * 8;
    }

    /** What the bits of a word alone tell. */
    private static final class Word {
        static int opcode(int w) {
            return w & 127;
        }

        static int rd(int w) {
            return (w >>> 7) & 31;
        }

        static int f3(int w) {
            return (w >>> 12) & 7;
        }

        static int rs1(int w) {
            return (w >>> 15) & 31;
        }

        static int rs2(int w) {
            return (w >>> 20) & 31;
        }

        static int f7(int w) {
            return w >>> 25;
        }

        static int immediateI(int w) {
            return w >> 20;
        }

        static int immediateS(int w) {
            return (w >> 25) << 5 | rd(w);
        }

        static int immediateB(int w) {
            return (w >> 31) << 12 | ((w >>> 7) & 1) << 11 | ((w >>> 25) & 63) << 5 | ((w >>> 8) & 15) << 1;
        }

        static int immediateU(int w) {
            return w & ~0xFFF;
        }

        static int immediateJ(int w) {
            return (w >> 31) << 20 | ((w >>> 12) & 255) << 12 | ((w >>> 20) & 1) << 11 | ((w >>> 21) & 1023) << 1;
        }

        static boolean isLegal(int w) {
            int f3 = f3(w);
            switch (opcode(w)) {
                case UPPER:
                case UPPER_TO_PC:
                case JUMP: return true;
                case JUMP_BY_REGISTER:
                case FENCE: return f3 == 0;
                case BRANCH: return f3 != 2 && f3 != 3;
                case LOAD: return f3 <= 2 || f3 == 4 || f3 == 5;
                case STORE: return f3 <= 2;
                case WITH_IMMEDIATE: return f3 != 1 && f3 != 5 || f7(w) == 0 || f3 == 5 && f7(w) == 32;
                case WITH_REGISTER: return f7(w) == 0 || f7(w) == 32 && (f3 == 0 || f3 == 5);
                case SYSTEM: return w == CALL_WORD || w == BREAK_WORD;
                default: return false;
            }
        }

        /** How many bytes a load or store has. */
        static int accessBytes(int w) {
            return 1 << (f3(w) & 3);
        }

        static boolean writesRd(int w) {
            switch (opcode(w)) {
                case UPPER:
                case UPPER_TO_PC:
                case JUMP:
                case JUMP_BY_REGISTER:
                case LOAD:
                case WITH_IMMEDIATE:
                case WITH_REGISTER: return true;
                default: return false;
            }
        }

        static boolean readsRs1(int w) {
            switch (opcode(w)) {
                case UPPER:
                case UPPER_TO_PC:
                case JUMP:
                case FENCE:
                case SYSTEM: return false;
                default: return true;
            }
        }

        static boolean readsRs2(int w) {
            switch (opcode(w)) {
                case BRANCH:
                case STORE:
                case WITH_REGISTER: return true;
                default: return false;
            }
        }

        /** Whether w needs what the word just before it loads; an ILLEGAL one needs nothing. */
        static boolean waitsFor(int w, int before) {
            int loaded = rd(before);
            if (opcode(before) != LOAD || loaded == 0 || !isLegal(w)) {
                return false;
            }
            return readsRs1(w) && rs1(w) == loaded || readsRs2(w) && rs2(w) == loaded;
        }
    }

    /** What EXECUTE does with two values. */
    private static final class Reckoning {
        private static final int SIGN = 0x80000000;

        static int result(int f3, boolean other, int a, int b) {
            switch (f3) {
                case 0: return other ? a - b : a + b;
                case 1: return a << (b & 31);
                case 2: return a < b ? 1 : 0;
                case 3: return isLessWithoutSigns(a, b) ? 1 : 0;
                case 4: return a ^ b;
                case 5: return other ? a >> (b & 31) : a >>> (b & 31);
                case 6: return a | b;
                default: return a & b;
            }
        }

        static boolean branches(int f3, int a, int b) {
            switch (f3) {
                case 0: return a == b;
                case 1: return a != b;
                case 4: return a < b;
                case 5: return a >= b;
                case 6: return isLessWithoutSigns(a, b);
                case 7: return !isLessWithoutSigns(a, b);
                default: return false;
            }
        }

        static boolean isLessWithoutSigns(int a, int b) {
            return (a ^ SIGN) < (b ^ SIGN);
        }
    }
}
