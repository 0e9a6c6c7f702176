import java.util.Arrays;

/**
 * A machine that really has five stages, with latches between them, results handed on, waiting
 * in DECODE and ways left from EXECUTE, runs made-up programs beside PipeWorks: after each number
 * of clocks both must show the same.
 */
final class PipelineModelTest {
    private static final int PROGRAMS = 1500;
    private static final int CLOCKS = 48;
    private static final Due due = new Due("PipelineModelTest");
    private static long seed = 20240601;

    public static void main(String[] args) {
        int[] kinds = new int[8];
        for (int program = 0; program < PROGRAMS; program++) {
            kinds[compare(program)]++;
        }
        // Programs that never get to some HALT would tell nothing about it.
        System.out.println("PipelineModelTest: programs by kind of HALT: " + Arrays.toString(kinds));
        for (int kind = 0; kind < 8; kind++) {
            due.is("some program ends with kind " + kind, kinds[kind] > 10, true);
        }
        due.end();
    }

    private static int compare(int program) {
        int length = 4 + pick(28);
        int[] words = new int[length];
        for (int k = 0; k < length; k++) {
            words[k] = madeUpWord(length, k);
        }
        int[] registers = new int[8];
        for (int k = 1; k < 8; k++) {
            registers[k] = pick(3) == 0 ? madeUpInt() : 4 * pick(64);
        }
        int[] cells = new int[8];
        for (int k = 0; k < 8; k++) {
            cells[k] = pick(3) == 0 ? madeUpInt() : 4 * pick(40);
        }
        int at = pick(8) == 0 ? 256 - length : 0;
        Model model = new Model();
        fill(words, registers, cells, at, model, null);
        for (int clocks = 1; clocks <= CLOCKS; clocks++) {
            model.clock();
            PipeWorks x = new PipeWorks();
            fill(words, registers, cells, at, null, x);
            int first = pick(clocks);
            if (first > 0) {
                x.clock(first);
            }
            due.is("program " + program + ", clock " + clocks, x.clock(clocks - first), model.done);
            due.state("program " + program, x, clocks, model.done, model.halt, model.haltAt, model.latest, clocks);
            for (int k = 0; k < 32; k++) {
                due.is("program " + program + ", clock " + clocks + ": register " + k, x.register(k), model.registers[k]);
            }
            for (int k = 0; k < 64; k++) {
                due.is("program " + program + ", clock " + clocks + ": memory " + k, x.memory(k), model.cell(k));
            }
        }
        return model.halt;
    }

    private static void fill(int[] words, int[] registers, int[] cells, int at, Model model, PipeWorks x) {
        for (int k = 0; k < words.length; k++) {
            put(model, x, at + k, words[k]);
        }
        if (at > 0) {
            put(model, x, 0, Asm.jump(7, 4 * at));
        }
        for (int k = 1; k < registers.length; k++) {
            if (model != null) {
                model.registers[k] = registers[k];
            } else {
                x.set(k, registers[k]);
            }
        }
        for (int k = 0; k < cells.length; k++) {
            if (model != null) {
                model.putCell(k, cells[k]);
            } else {
                x.data(k, cells[k]);
            }
        }
    }

    private static void put(Model model, PipeWorks x, int k, int w) {
        if (model != null) {
            model.words[k] = w;
        } else {
            x.word(k, w);
        }
    }

    private static int madeUpWord(int length, int k) {
        int rd = pick(8);
        int rs1 = pick(8);
        int rs2 = pick(8);
        int near = 4 * (pick(length + 1) - k);
        int[] loadKinds = {0, 1, 2, 2, 2, 4, 5};
        int[] branchKinds = {0, 1, 4, 5, 6, 7};
        switch (pick(40)) {
            case 0: return Asm.upper(55, rd, madeUpInt());
            case 1: return Asm.upper(23, rd, madeUpInt());
            case 2: case 3: return Asm.jump(rd, pick(12) == 0 ? near + 2 : near);
            case 4: return Asm.jumpBy(rd, 0, 4 * pick(length) + pick(2));
            case 5: return Asm.jumpBy(rd, rs1, 4 * pick(4));
            case 6: case 7: case 8: case 9: case 10: case 11:
                return Asm.branch(branchKinds[pick(6)], rs1, rs2, pick(12) == 0 ? near + 2 : near);
            case 12: case 13: case 14: case 15: case 16: case 17: case 18: case 19:
                return Asm.load(loadKinds[pick(7)], rd, 0, 4 * pick(16));
            case 20: return Asm.load(loadKinds[pick(7)], rd, rs1, pick(8));
            case 21: case 22: case 23: case 24: case 25:
                return Asm.store(pick(3), rs2, 0, 4 * pick(16));
            case 26: return Asm.store(pick(3), rs2, rs1, pick(8));
            case 27: return madeUpInt();
            case 28: return Asm.r(15, 0, pick(128), rd, rs1, rs2);
            case 29: return pick(2) == 0 ? Asm.CALL : Asm.BREAK;
            case 30: return Asm.r(51, pick(8), pick(3) == 0 ? pick(128) : 32, rd, rs1, rs2);
            case 31: case 32: case 33: case 34: return Asm.op(pick(8), rd, rs1, rs2);
            case 35: return Asm.opOther(5 * pick(2), rd, rs1, rs2);
            case 36: return Asm.opI(5, rd, rs1, pick(32) + 1024 * pick(2));
            default: return Asm.opI(pick(8), rd, rs1, pick(32));
        }
    }

    private static int madeUpInt() {
        seed = seed * 6364136223846793005L + 1442695040888963407L;
        return (int) (seed >>> 32);
    }

    private static int pick(int n) {
        return Math.floorMod(madeUpInt() >>> 8, n);
    }

    /** A word on its way, with what the stages have found out about it. */
    private static final class Flight {
        int address;
        int w;
        int halt;
        int result;
        int target;
        boolean goes;

        int bits(int low, int count) {
            return (int) (((w & 0xFFFFFFFFL) >> low) % (1L << count));
        }

        int op() {
            return bits(0, 7);
        }

        int rd() {
            return op() == 99 || op() == 35 || op() == 15 || op() == 115 ? 0 : bits(7, 5);
        }

        /** Puts together the bits of an immediate from its lowest on, then its sign. */
        int immediate(int lowest, int... lowAndCount) {
            int value = 0;
            int place = lowest;
            for (int i = 0; i < lowAndCount.length; i += 2) {
                value += bits(lowAndCount[i], lowAndCount[i + 1]) << place;
                place += lowAndCount[i + 1];
            }
            return w < 0 ? value - (1 << (place - 1)) * 2 : value;
        }

        int immediateI() {
            return immediate(0, 20, 12);
        }

        boolean legal() {
            int f3 = bits(12, 3);
            int f7 = bits(25, 7);
            switch (op()) {
                case 55: case 23: case 111: return true;
                case 103: case 15: return f3 == 0;
                case 99: return f3 < 2 || f3 > 3;
                case 3: return f3 < 6 && f3 != 3;
                case 35: return f3 < 3;
                case 19: return f3 % 4 != 1 || f7 == 0 || f3 == 5 && f7 == 32;
                case 51: return f7 == 0 || f7 == 32 && f3 % 5 == 0;
                default: return w == 115 || w == 1048691;
            }
        }

        boolean reads(int register) {
            if (halt != 0) {
                return false;
            }
            boolean two = op() == 99 || op() == 35 || op() == 51;
            boolean one = two || op() == 103 || op() == 3 || op() == 19;
            return one && bits(15, 5) == register || two && bits(20, 5) == register;
        }
    }

    private static final class Model {
        final int[] words = new int[256];
        final byte[] bytes = new byte[256];
        final int[] registers = new int[32];
        int done = 0;
        int halt = 0;
        int haltAt = 0;
        int latest = -1;
        private int pc = 0;
        private boolean fetching = true;
        /** What is in each stage in the clock that is now. */
        private Flight fetch;
        private Flight decode;
        private Flight execute;
        private Flight memory;
        private Flight write;

        int cell(int k) {
            int value = 0;
            for (int i = 3; i >= 0; i--) {
                value = value * 256 + (bytes[4 * k + i] & 255);
            }
            return value;
        }

        void putCell(int k, int v) {
            for (int i = 0; i < 4; i++) {
                bytes[4 * k + i] = (byte) (v >> (8 * i));
            }
        }

        void clock() {
            boolean waits = execute != null && execute.halt == 0 && execute.op() == 3 && execute.rd() != 0
                    && decode != null && decode.reads(execute.rd());
            write = memory;
            memory = execute;
            execute = waits ? null : decode;
            if (!waits) {
                decode = fetch;
                fetch = fetching ? fetched() : null;
            }
            doMemory();
            doWrite();
            doDecode();
            doExecute();
        }

        private Flight fetched() {
            Flight f = new Flight();
            f.address = pc;
            f.halt = pc < 0 || pc > 1023 ? 4 : 0;
            f.w = f.halt == 0 ? words[pc / 4] : 0;
            pc += 4;
            return f;
        }

        private void doDecode() {
            if (decode != null && decode.halt == 0) {
                decode.halt = !decode.legal() ? 3 : decode.w == 115 ? 1 : decode.op() == 115 ? 2 : 0;
            }
        }

        /** The value as EXECUTE sees it: handed on from MEMORY's word, or as it has been written. */
        private int value(int register) {
            if (register != 0 && memory != null && memory.halt == 0 && memory.rd() == register) {
                if (memory.op() == 3) {
                    throw new AssertionError("a loaded value is used too early");
                }
                return memory.result;
            }
            if (register != 0 && write != null && write.halt == 0 && write.rd() == register) {
                return write.result;
            }
            return registers[register];
        }

        private void doExecute() {
            if (execute == null) {
                return;
            }
            if (execute.halt == 0) {
                reckon(execute, value(execute.bits(15, 5) * used(execute)), execute.bits(20, 5));
            }
            if (execute.halt != 0) {
                fetching = false;
            }
            if (execute.halt != 0 || execute.goes) {
                decode = null;
                fetch = null;
                pc = execute.target;
            }
        }

        /** 0 for those that read nothing, so that their bits of rs1 are not taken for a register. */
        private static int used(Flight f) {
            return f.op() == 55 || f.op() == 23 || f.op() == 111 || f.op() == 15 || f.op() == 115 ? 0 : 1;
        }

        private void reckon(Flight f, int a, int rs2) {
            int f3 = f.bits(12, 3);
            switch (f.op()) {
                case 55: f.result = f.bits(12, 20) * 4096; break;
                case 23: f.result = f.address + f.bits(12, 20) * 4096; break;
                case 111: go(f, f.address + f.immediate(1, 21, 10, 20, 1, 12, 8, 31, 1)); break;
                case 103: go(f, (a + f.immediateI()) / 2 * 2 - oddBelowZero(a + f.immediateI())); break;
                case 99:
                    if (holds(f3, a, value(rs2))) {
                        go(f, f.address + f.immediate(1, 8, 4, 25, 6, 7, 1, 31, 1));
                    }
                    break;
                case 3: access(f, a + f.immediateI(), f3); break;
                case 35:
                    f.result = value(rs2);
                    access(f, a + f.immediate(0, 7, 5, 25, 7), f3);
                    break;
                case 19: f.result = sum(f3, f3 == 5 && f.bits(30, 1) == 1, a, f.immediateI()); break;
                case 51: f.result = sum(f3, f.bits(30, 1) == 1, a, value(rs2)); break;
                default: break;
            }
        }

        private static int oddBelowZero(int v) {
            return v < 0 && v % 2 != 0 ? 2 : 0;
        }

        private static void go(Flight f, int target) {
            f.result = f.address + 4;
            f.target = target;
            f.goes = true;
            f.halt = target % 4 != 0 ? 5 : 0;
        }

        private static void access(Flight f, int address, int f3) {
            int size = f3 == 2 ? 4 : f3 % 4 == 1 ? 2 : 1;
            f.target = address;
            f.halt = address % size != 0 ? 6 : address < 0 || address > 255 ? 7 : 0;
        }

        private static boolean holds(int f3, int a, int b) {
            long left = f3 < 6 ? a : Integer.toUnsignedLong(a);
            long right = f3 < 6 ? b : Integer.toUnsignedLong(b);
            boolean so = f3 < 2 ? left == right : left < right;
            return so == (f3 % 2 == 0);
        }

        private static int sum(int f3, boolean other, int a, int b) {
            long plain = Integer.toUnsignedLong(a);
            switch (f3) {
                case 0: return (int) (other ? (long) a - b : (long) a + b);
                case 1: return (int) (plain << (b & 31));
                case 2: return (long) a < (long) b ? 1 : 0;
                case 3: return plain < Integer.toUnsignedLong(b) ? 1 : 0;
                case 4: return (a | b) - (a & b);
                case 5: return (int) ((other ? (long) a : plain) >> (b & 31));
                case 6: return ~(~a & ~b);
                default: return ~(~a | ~b);
            }
        }

        private void doMemory() {
            if (memory == null || memory.halt != 0) {
                return;
            }
            int f3 = memory.bits(12, 3);
            int size = f3 == 2 ? 4 : f3 % 4 == 1 ? 2 : 1;
            if (memory.op() == 35) {
                for (int i = 0; i < size; i++) {
                    bytes[memory.target + i] = (byte) (memory.result >> (8 * i));
                }
            }
            if (memory.op() == 3) {
                long value = 0;
                for (int i = size - 1; i >= 0; i--) {
                    value = value * 256 + (bytes[memory.target + i] & 255);
                }
                boolean signed = f3 < 3 && value >= 1L << (8 * size - 1);
                memory.result = (int) (signed ? value - (1L << (8 * size)) : value);
            }
        }

        private void doWrite() {
            if (write == null) {
                return;
            }
            if (write.halt != 0) {
                halt = write.halt;
                haltAt = write.address;
                return;
            }
            registers[write.rd()] = write.rd() == 0 ? 0 : write.result;
            done++;
            latest = write.address;
        }
    }
}
