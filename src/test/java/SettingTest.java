/** Promises 1 to 4, 7 and 8: a new object, what may be put into it and what it shows. */
final class SettingTest {
    private static final int[] WRONG = {-1, -2, 256, 1024, Integer.MIN_VALUE, Integer.MAX_VALUE};
    private static final Due due = new Due("SettingTest");

    public static void main(String[] args) {
        newObject();
        settingData();
        settingRegisters();
        settingWords();
        refusedAfterAClock();
        objectsAreApart();
        due.end();
    }

    private static void newObject() {
        PipeWorks x = new PipeWorks();
        for (int k = 0; k < 32; k++) {
            due.is("new: register(" + k + ")", x.register(k), 0);
        }
        for (int k = 0; k < 64; k++) {
            due.is("new: memory(" + k + ")", x.memory(k), 0);
        }
        due.state("new", x, 0, 0, 0, 0, -1, 0);
        // An empty WORD MEMORY holds 0, which is ILLEGAL.
        due.is("new: clock(4)", x.clock(4), 0);
        due.state("new, clock 4", x, 4, 0, 0, 0, -1, 4);
        due.is("new: clock(1)", x.clock(1), 0);
        due.state("new, clock 5", x, 5, 0, 3, 0, -1, 5);
    }

    private static void settingData() {
        PipeWorks x = new PipeWorks();
        for (int k = 0; k < 64; k++) {
            due.is("data", x.data(k, ~k * 1000003), true);
        }
        for (int k : WRONG) {
            due.is("data(" + k + ")", x.data(k, 7), false);
            due.memoryThrows(x, k);
        }
        due.is("data(64)", x.data(64, 7), false);
        due.memoryThrows(x, 64);
        for (int k = 0; k < 64; k++) {
            due.is("memory(" + k + ")", x.memory(k), ~k * 1000003);
        }
        due.is("data again", x.data(9, Integer.MIN_VALUE), true);
        due.is("memory(9)", x.memory(9), Integer.MIN_VALUE);
    }

    private static void settingRegisters() {
        PipeWorks x = new PipeWorks();
        for (int k = 1; k < 32; k++) {
            due.is("set", x.set(k, -k * 77777777), true);
        }
        due.is("set(0)", x.set(0, 7), false);
        for (int k : WRONG) {
            due.is("set(" + k + ")", x.set(k, 7), false);
            due.registerThrows(x, k);
        }
        due.is("set(32)", x.set(32, 7), false);
        due.registerThrows(x, 32);
        for (int k = 0; k < 32; k++) {
            due.is("register(" + k + ")", x.register(k), -k * 77777777);
        }
    }

    /** Each word adds its own number to x1, so that a wrong place would be seen in the sum. */
    private static void settingWords() {
        PipeWorks x = new PipeWorks();
        int sum = 0;
        for (int k = 0; k < 256; k++) {
            due.is("word", x.word(k, Asm.addi(1, 1, k)), true);
            sum += k;
        }
        for (int k : WRONG) {
            due.is("word(" + k + ")", x.word(k, Asm.BREAK), false);
        }
        due.is("clock(200)", x.clock(200), 196);
        due.is("half of the words", x.register(1), 195 * 196 / 2);
        due.is("clock(60)", x.clock(60), 256);
        due.is("all words", x.register(1), sum);
        due.state("behind all words", x, 260, 256, 0, 0, 1020, 260);
        due.is("clock(1)", x.clock(1), 256);
        due.state("beyond", x, 261, 256, 4, 1024, 1020, 261);
    }

    private static void refusedAfterAClock() {
        PipeWorks x = Asm.with(Asm.addi(1, 0, 5), Asm.CALL);
        due.clockThrows(x, 0, IllegalArgumentException.class);
        due.is("set, still no clock", x.set(2, 22), true);
        x.clock(1);
        due.is("word behind a clock", x.word(0, Asm.addi(1, 0, 6)), false);
        due.is("data behind a clock", x.data(0, 1), false);
        due.is("set behind a clock", x.set(2, 1), false);
        x.clock(30);
        due.is("word behind a HALT", x.word(0, Asm.addi(1, 0, 6)), false);
        due.is("data behind a HALT", x.data(0, 1), false);
        due.is("set behind a HALT", x.set(2, 1), false);
        due.is("the word stayed", x.register(1), 5);
        due.is("the register stayed", x.register(2), 22);
        due.is("the data stayed", x.memory(0), 0);
        x.reset();
        due.is("word behind reset", x.word(0, Asm.addi(1, 0, 6)), true);
        due.is("data behind reset", x.data(0, 1), true);
        due.is("set behind reset", x.set(2, 1), true);
        x.clock(30);
        due.is("the new word", x.register(1), 6);
        due.is("the new register", x.register(2), 1);
        due.is("the new data", x.memory(0), 1);
    }

    private static void objectsAreApart() {
        PipeWorks x = Asm.with(Asm.NOP);
        PipeWorks y = new PipeWorks();
        x.set(1, 1);
        x.data(1, 1);
        x.clock(7);
        due.is("the other's register", y.register(1), 0);
        due.is("the other's data", y.memory(1), 0);
        due.state("the other", y, 0, 0, 0, 0, -1, 0);
    }
}
