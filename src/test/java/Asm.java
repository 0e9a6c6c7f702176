/** Makes words, and objects that hold them. */
final class Asm {
    static final int CALL = 115;
    static final int BREAK = 1048691;
    static final int NOP = 19;

    private Asm() {
    }

    static int r(int opcode, int f3, int f7, int rd, int rs1, int rs2) {
        return opcode + (rd << 7) + (f3 << 12) + (rs1 << 15) + (rs2 << 20) + (f7 << 25);
    }

    static int i(int opcode, int f3, int rd, int rs1, int immediate) {
        return opcode + (rd << 7) + (f3 << 12) + (rs1 << 15) + (immediate << 20);
    }

    static int op(int f3, int rd, int rs1, int rs2) {
        return r(51, f3, 0, rd, rs1, rs2);
    }

    static int opOther(int f3, int rd, int rs1, int rs2) {
        return r(51, f3, 32, rd, rs1, rs2);
    }

    static int opI(int f3, int rd, int rs1, int immediate) {
        return i(19, f3, rd, rs1, immediate);
    }

    static int addi(int rd, int rs1, int immediate) {
        return opI(0, rd, rs1, immediate);
    }

    static int load(int f3, int rd, int rs1, int immediate) {
        return i(3, f3, rd, rs1, immediate);
    }

    static int store(int f3, int rs2, int rs1, int immediate) {
        return r(35, f3, (immediate >> 5) & 127, immediate & 31, rs1, rs2);
    }

    static int branch(int f3, int rs1, int rs2, int offset) {
        int high = ((offset >> 12) & 1) * 64 + ((offset >> 5) & 63);
        int low = ((offset >> 1) & 15) * 2 + ((offset >> 11) & 1);
        return r(99, f3, high, low, rs1, rs2);
    }

    static int upper(int opcode, int rd, int high20) {
        return opcode + (rd << 7) + (high20 << 12);
    }

    static int jump(int rd, int offset) {
        int bits = ((offset >> 20) & 1) << 31 | ((offset >> 1) & 1023) << 21
                | ((offset >> 11) & 1) << 20 | ((offset >> 12) & 255) << 12;
        return 111 | rd << 7 | bits;
    }

    static int jumpBy(int rd, int rs1, int immediate) {
        return i(103, 0, rd, rs1, immediate);
    }

    /** A new object with these words from address 0 on. */
    static PipeWorks with(int... words) {
        PipeWorks x = new PipeWorks();
        for (int k = 0; k < words.length; k++) {
            x.word(k, words[k]);
        }
        return x;
    }
}
