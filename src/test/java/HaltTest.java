/** The terms: at what a run HALTS, with what kind, when, and that nothing behind it does anything. */
final class HaltTest {
    private static final Due due = new Due("HaltTest");

    public static void main(String[] args) {
        kindsOfWords();
        legality();
        unevenJumps();
        beyondTheWords();
        accesses();
        nothingBehind();
        leftWaysDoNotHalt();
        stillBehindAHalt();
        due.end();
    }

    /** w at address 4 HALTS with its clock in WRITE, which is the sixth. */
    private static void halts(String what, int w, int kind) {
        PipeWorks x = Asm.with(Asm.NOP, w, Asm.store(2, 1, 0, 0), Asm.addi(1, 0, 7));
        x.set(1, -8);
        x.set(2, 1);
        x.set(3, 252);
        due.is(what + ": clock(5)", x.clock(5), 1);
        due.state(what, x, 5, 1, 0, 0, 0, 5);
        due.is(what + ": clock(1)", x.clock(1), 1);
        due.state(what, x, 6, 1, kind, 4, 0, 6);
        due.is(what + ": clock(9)", x.clock(9), 1);
        due.state(what, x, 15, 1, kind, 4, 0, 15);
        due.is(what + ": x1", x.register(1), -8);
        due.is(what + ": x2", x.register(2), 1);
        due.is(what + ": x3", x.register(3), 252);
        for (int k = 0; k < 64; k++) {
            due.is(what + ": memory(" + k + ")", x.memory(k), 0);
        }
    }

    private static void kindsOfWords() {
        halts("CALL", 115, 1);
        halts("BREAK", 1048691, 2);
        halts("0", 0, 3);
        halts("-1", -1, 3);
        halts("115 with rd", Asm.i(115, 0, 1, 0, 0), 3);
        halts("115 with rs1", Asm.i(115, 0, 0, 1, 0), 3);
        halts("115 with f3", Asm.i(115, 1, 0, 0, 0), 3);
        halts("115 with 2", Asm.i(115, 0, 0, 0, 2), 3);
        halts("BREAK with rd", Asm.i(115, 0, 1, 0, 1), 3);
        halts("115 with -1", Asm.i(115, 0, 0, 0, -1), 3);
    }

    private static boolean legal(int opcode, int f3, int f7) {
        switch (opcode) {
            case 55: case 23: case 111: return true;
            case 103: case 15: return f3 == 0;
            case 99: return "014567".indexOf('0' + f3) >= 0;
            case 3: return "01245".indexOf('0' + f3) >= 0;
            case 35: return "012".indexOf('0' + f3) >= 0;
            case 19: return f3 == 1 ? f7 == 0 : f3 == 5 ? f7 == 0 || f7 == 32 : true;
            case 51: return f7 == 0 || f7 == 32 && (f3 == 0 || f3 == 5);
            default: return false;
        }
    }

    /** Every opcode but 115, with every f3 and f7. */
    private static void legality() {
        for (int opcode = 0; opcode < 128; opcode++) {
            for (int rest = 0; rest < 1024; rest++) {
                int f3 = rest & 7;
                int f7 = rest >> 3;
                if (opcode != 115) {
                    PipeWorks x = Asm.with(Asm.r(opcode, f3, f7, 4, 5, 6));
                    x.clock(5);
                    boolean illegal = x.state(2) == 3;
                    due.is("ILLEGAL: " + opcode + ", f3 " + f3 + ", f7 " + f7, illegal, !legal(opcode, f3, f7));
                }
            }
        }
    }

    private static void unevenJumps() {
        halts("111 by 2", Asm.jump(2, 2), 5);
        halts("111 by -2", Asm.jump(2, -2), 5);
        halts("111 far by 2", Asm.jump(2, 4098), 5);
        halts("103 to 2", Asm.jumpBy(3, 0, 2), 5);
        halts("103 to 3", Asm.jumpBy(3, 0, 3), 5);
        halts("103 to -10", Asm.jumpBy(3, 1, -2), 5);
        halts("99 by 6", Asm.branch(0, 0, 0, 6), 5);
        halts("99 by -4094", Asm.branch(1, 1, 2, -4094), 5);
        // One that does not JUMP may tell any way.
        PipeWorks x = Asm.with(Asm.branch(1, 0, 0, 6), Asm.branch(4, 0, 0, 2), Asm.CALL);
        due.is("99 not so", x.clock(7), 2);
        due.state("99 not so", x, 7, 2, 1, 8, 4, 7);
    }

    private static void beyond(String what, int w, int x1, int address) {
        PipeWorks x = Asm.with(w);
        x.set(1, x1);
        due.is(what + ": clock(7)", x.clock(7), 1);
        due.state(what, x, 7, 1, 0, 0, 0, 7);
        due.is(what + ": clock(1)", x.clock(1), 1);
        due.state(what, x, 8, 1, 4, address, 0, 8);
        due.is(what + ": rd", x.register(2), 4);
    }

    private static void beyondTheWords() {
        beyond("111 to 1024", Asm.jump(2, 1024), 0, 1024);
        beyond("111 to -4", Asm.jump(2, -4), 0, -4);
        beyond("103 to 1024", Asm.jumpBy(2, 1, 0), 1024, 1024);
        beyond("103 to 1025", Asm.jumpBy(2, 1, 1), 1024, 1024);
        beyond("103 to the least int", Asm.jumpBy(2, 1, 0), Integer.MIN_VALUE, Integer.MIN_VALUE);
        beyond("103 round the end", Asm.jumpBy(2, 1, 4), Integer.MAX_VALUE - 3, Integer.MIN_VALUE);
        beyond("103 to the highest", Asm.jumpBy(2, 1, -3), -1, -4);
        PipeWorks x = Asm.with(Asm.jump(0, 1020));
        x.word(255, Asm.addi(1, 0, 1));
        due.is("one by one beyond: clock(8)", x.clock(8), 2);
        due.state("one by one beyond", x, 8, 2, 0, 0, 1020, 8);
        due.is("one by one beyond: clock(1)", x.clock(1), 2);
        due.state("one by one beyond", x, 9, 2, 4, 1024, 1020, 9);
        due.is("x1", x.register(1), 1);
        // Beyond, nothing is read: no waiting for what is loaded.
        x.reset();
        x.word(255, Asm.load(2, 1, 0, 0));
        x.clock(9);
        due.state("beyond behind a load", x, 9, 2, 4, 1024, 1020, 18);
    }

    private static void accesses() {
        for (int f3 : new int[] {0, 1, 2, 4, 5}) {
            int bytes = f3 == 2 ? 4 : (f3 & 3) + 1;
            for (int address : new int[] {-2048, -4, -3, -2, -1, 256, 257, 258, 259, 260, 2047, 1, 2, 3, 253, 254, 255}) {
                boolean uneven = Math.floorMod(address, bytes) != 0;
                boolean far = address < 0 || address > 255;
                if (uneven || far) {
                    halts("load f3 " + f3 + " at " + address, Asm.load(f3, 2, 0, address), uneven ? 6 : 7);
                    if (f3 <= 2) {
                        halts("store f3 " + f3 + " at " + address, Asm.store(f3, 2, 0, address), uneven ? 6 : 7);
                    }
                }
            }
        }
        halts("load with x3 + 4", Asm.load(0, 0, 3, 4), 7);
        halts("store with x1 + 4", Asm.store(2, 3, 1, 4), 7);
        // -8 + 8 is 0 again.
        PipeWorks x = Asm.with(Asm.store(2, 2, 1, 8), Asm.CALL);
        x.set(1, -8);
        x.set(2, 6);
        due.is("store round the end", x.clock(20), 1);
        due.is("memory(0)", x.memory(0), 6);
    }

    /** A store in MEMORY while the HALT's word is in WRITE does nothing. */
    private static void nothingBehind() {
        int[] halting = {115, 1048691, 0, Asm.jump(1, 2), Asm.load(2, 1, 0, 1), Asm.store(2, 2, 0, 256)};
        for (int w : halting) {
            PipeWorks x = Asm.with(w, Asm.store(2, 2, 0, 4), Asm.addi(3, 0, 1), Asm.jump(0, -12));
            x.set(2, 9);
            due.is("nothing behind: DONE", x.clock(200), 0);
            due.is("nothing behind: memory", x.memory(1), 0);
            due.is("nothing behind: x3", x.register(3), 0);
            due.is("nothing behind: x1", x.register(1), 0);
            due.is("nothing behind: state(3)", x.state(3), 0);
            due.is("nothing behind: state(4)", x.state(4), -1);
        }
        // What stands before the HALT comes all the same.
        PipeWorks y = Asm.with(Asm.addi(3, 0, 1), Asm.store(2, 3, 0, 4), Asm.CALL);
        due.is("before it: DONE", y.clock(200), 2);
        due.is("before it: x3", y.register(3), 1);
        due.is("before it: memory", y.memory(1), 1);
    }

    private static void leftWaysDoNotHalt() {
        for (int w : new int[] {115, 1048691, 0, Asm.jump(0, 2), Asm.load(2, 1, 0, 1), Asm.load(0, 1, 0, 256)}) {
            PipeWorks x = Asm.with(Asm.jump(0, 12), w, w, Asm.addi(1, 0, 1), Asm.jump(0, 0));
            due.is("left way: DONE", x.clock(10), 3);
            due.is("left way: x1", x.register(1), 1);
            due.is("left way: no HALT", x.state(2), 0);
        }
        // A way beyond the words that is left again.
        PipeWorks y = Asm.with(Asm.jump(0, 1020));
        y.word(255, Asm.jump(0, -1020));
        due.is("left way beyond", y.clock(200), 66);
        due.is("no HALT", y.state(2), 0);
    }

    private static void stillBehindAHalt() {
        PipeWorks x = Asm.with(Asm.addi(1, 1, 1), Asm.CALL);
        for (int i = 1; i <= 30; i++) {
            due.is("clock(1)", x.clock(1), i < 5 ? 0 : 1);
            due.state("clock " + i, x, i, i < 5 ? 0 : 1, i < 6 ? 0 : 1, i < 6 ? 0 : 4, i < 5 ? -1 : 0, i);
            due.is("x1", x.register(1), i < 5 ? 0 : 1);
        }
    }
}
