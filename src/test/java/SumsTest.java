/** Terms: "All sums of words are taken modulo 65536", each sum on both sides of its wrap-around. */
public final class SumsTest {
    /** Rows: the place of the instruction, n9, and PC + n9, where PC is the place after it. */
    private static final int[][] PLACE_AND_N9 = {
        {65533, 1, 65535}, {65534, 0, 65535}, {65534, 1, 0}, {65535, 0, 0}, {65535, -1, 65535}, {65535, 1, 1},
        {65279, 255, 65535}, {65280, 255, 0}, {65535, 255, 255},
        {255, -256, 0}, {254, -256, 65535}, {0, -256, 65281}, {65535, -256, 65280},
        {0, -1, 0}, {0, -2, 65535}, {32767, -1, 32767}, {32766, 1, 32768}};

    /** Rows: the word of register s, n6, and the cell that their sum names. */
    private static final int[][] WORD_AND_N6 = {
        {65535, 0, 63}, {65535, 1, 0}, {65535, 31, 30}, {65504, 31, 63}, {65505, 31, 0},
        {0, -1, 63}, {1, -1, 0}, {0, -32, 32}, {31, -32, 63}, {32, -32, 0}};

    public static void main(String[] args) {
        placePlusOne();
        placePlusOneAtEveryOpcode();
        placeGoesOnOverTheEnd();
        registerPlusRegister();
        registerPlusN5();
        placePlusN9AsAWord();
        placePlusN9AsAPlace();
        placePlusN9AsAnAddress();
        placePlusN9AsTheAddressOfAnAddress();
        registerPlusN6();
        placePlusN11();
        Due.end();
    }

    /** "PC becomes PC + 1". */
    private static void placePlusOne() {
        int[][] cases = {{0, 1}, {62, 63}, {63, 64}, {32767, 32768}, {65534, 65535}, {65535, 0}};
        for (int[] c : cases) {
            new Scene("nothing at " + c[0]).fullCells().at(c[0], 0).executesOne().duePlace(c[1]).shows();
        }
    }

    private static void placePlusOneAtEveryOpcode() {
        for (int opcode = 0; opcode < 16; opcode++) {
            MicroLc3 x = new MicroLc3();
            x.poke(63, opcode << 12);
            x.start(65535);
            Due.is("opcode " + opcode + " at 65535: step(1)", x.step(1), 1);
            // All registers are 0, so the jumps go to 0 as well.
            Due.is("opcode " + opcode + " at 65535: place()", x.place(), 0);
        }
    }

    private static void placeGoesOnOverTheEnd() {
        new Scene("from 65500 on").place(65500).executes(100, 100).duePlace(64).shows();
    }

    private static void registerPlusRegister() {
        int[][] sums = {{65535, 0, 65535}, {65535, 1, 0}, {1, 65535, 0}, {65534, 1, 65535}, {65535, 65535, 65534},
            {32768, 32767, 65535}, {32768, 32768, 0}, {32767, 1, 32768}, {32767, 32767, 65534}, {0, 0, 0}};
        for (int[] sum : sums) {
            new Scene(sum[0] + " + " + sum[1]).at(20, Instructions.withRegister(1, 0, 7, 5))
                .register(7, sum[0]).register(5, sum[1])
                .executesOne().dueResult(0, sum[2]).shows();
        }
    }

    private static void registerPlusN5() {
        int[][] sums = {{65535, 0, 65535}, {65535, 1, 0}, {65535, 15, 14}, {65520, 15, 65535}, {65521, 15, 0},
            {0, -1, 65535}, {1, -1, 0}, {15, -16, 65535}, {16, -16, 0}, {0, -16, 65520}, {32767, 1, 32768},
            {32768, -1, 32767}, {0, 0, 0}};
        for (int[] sum : sums) {
            new Scene(sum[0] + " + n5 " + sum[1]).at(20, Instructions.withNumber(1, 0, 7, sum[1]))
                .register(7, sum[0])
                .executesOne().dueResult(0, sum[2]).shows();
        }
    }

    private static void placePlusN9AsAWord() {
        for (int[] c : PLACE_AND_N9) {
            new Scene("opcode 14 at " + c[0] + " by " + c[1]).at(c[0], Instructions.near(14, 5, c[1]))
                .executesOne().dueResult(5, c[2]).shows();
        }
    }

    private static void placePlusN9AsAPlace() {
        for (int[] c : PLACE_AND_N9) {
            new Scene("opcode 0 at " + c[0] + " by " + c[1]).at(c[0], Instructions.near(0, 2, c[1]))
                .executesOne().duePlace(c[2]).shows();
        }
    }

    private static void placePlusN9AsAnAddress() {
        for (int[] c : PLACE_AND_N9) {
            int cell = c[2] & 63;
            Scene load = new Scene("opcode 2 at " + c[0] + " by " + c[1]).fullCells()
                .at(c[0], Instructions.near(2, 5, c[1]));
            load.executesOne().dueResult(5, load.wordOf(cell)).shows();

            new Scene("opcode 3 at " + c[0] + " by " + c[1]).fullCells()
                .at(c[0], Instructions.near(3, 5, c[1])).register(5, 1234)
                .executesOne().dueCell(cell, 1234).shows();
        }
    }

    private static void placePlusN9AsTheAddressOfAnAddress() {
        for (int[] c : PLACE_AND_N9) {
            int first = c[2] & 63;
            Scene load = new Scene("opcode 10 at " + c[0] + " by " + c[1]).fullCells()
                .at(c[0], Instructions.near(10, 5, c[1]));
            load.executesOne().dueResult(5, load.wordOf(load.wordOf(first) & 63)).shows();

            Scene store = new Scene("opcode 11 at " + c[0] + " by " + c[1]).fullCells()
                .at(c[0], Instructions.near(11, 5, c[1])).register(5, 1234);
            store.executesOne().dueCell(store.wordOf(first) & 63, 1234).shows();
        }
    }

    private static void registerPlusN6() {
        for (int[] c : WORD_AND_N6) {
            Scene load = new Scene("opcode 6 by " + c[0] + " + " + c[1]).fullCells()
                .at(20, Instructions.based(6, 2, 6, c[1])).register(6, c[0]);
            load.executesOne().dueResult(2, load.wordOf(c[2])).shows();

            new Scene("opcode 7 by " + c[0] + " + " + c[1]).fullCells()
                .at(20, Instructions.based(7, 2, 6, c[1])).register(6, c[0]).register(2, 1234)
                .executesOne().dueCell(c[2], 1234).shows();
        }
    }

    /** Rows: the place of the instruction, n11, PC + n11, and PC itself, which register 7 becomes. */
    private static void placePlusN11() {
        int[][] cases = {{65534, 0, 65535, 65535}, {65534, 1, 0, 65535}, {65535, 0, 0, 0}, {65535, -1, 65535, 0},
            {64511, 1023, 65535, 64512}, {64512, 1023, 0, 64513}, {65535, 1023, 1023, 0},
            {1023, -1024, 0, 1024}, {1022, -1024, 65535, 1023}, {0, -1024, 64513, 1}, {65535, -1024, 64512, 0}};
        for (int[] c : cases) {
            new Scene("opcode 4 at " + c[0] + " by " + c[1]).at(c[0], Instructions.call(c[1]))
                .executesOne().duePlace(c[2]).dueRegister(7, c[3]).shows();
        }
    }
}
