/**
 * Terms: "The SIGNED reading of k bits is their number, less 2^k if the highest one is 1", for the
 * lowest 5, 6, 9 and 11 bits of an instruction and the 16 bits of a word. The bit above the k bits
 * is tried as 0 and as 1 where the instruction leaves it free. Of n6, and of n9 as an address, only
 * the cell that is named can be seen, and it is the same with and without the 2^k.
 */
public final class SignedReadingsTest {
    /** Rows: the number in the lowest bits, and its signed reading. */
    private static final int[][] FIVE = {{0, 0}, {1, 1}, {14, 14}, {15, 15}, {16, -16}, {17, -15}, {30, -2}, {31, -1}};
    private static final int[][] NINE = {{0, 0}, {1, 1}, {254, 254}, {255, 255}, {256, -256}, {257, -255}, {510, -2},
        {511, -1}};
    private static final int[][] ELEVEN = {{0, 0}, {1, 1}, {1022, 1022}, {1023, 1023}, {1024, -1024}, {1025, -1023},
        {2046, -2}, {2047, -1}};

    public static void main(String[] args) {
        n5InASum();
        n5InAnAnd();
        n6InALoadAndAStore();
        n9AsAWord();
        n9InABranch();
        n9InTheLoadsAndStores();
        n11InACall();
        everyNumberOfNineBits();
        everyNumberOfElevenBits();
        everyWord();
        Due.end();
    }

    private static int signed(int number, int bits) {
        int size = 1 << bits;
        return number >= size / 2 ? number - size : number;
    }

    private static void n5InASum() {
        for (int[] row : FIVE) {
            new Scene("1000 + n5 " + row[0]).at(20, Instructions.withNumber(1, 3, 2, row[0])).register(2, 1000)
                .executesOne().dueResult(3, 1000 + row[1]).shows();
        }
    }

    /** "register s & n5 (taken as a word)": 65536 is added to a reading below 0. */
    private static void n5InAnAnd() {
        int[][] words = {{0, 0}, {1, 1}, {14, 14}, {15, 15}, {16, 65520}, {17, 65521}, {30, 65534}, {31, 65535}};
        for (int[] row : words) {
            int instruction = Instructions.withNumber(5, 3, 2, row[0]);
            new Scene("65535 & n5 " + row[0]).at(20, instruction).register(2, 65535)
                .executesOne().dueResult(3, row[1]).shows();
            new Scene("32768 & n5 " + row[0]).at(20, instruction).register(2, 32768)
                .executesOne().dueResult(3, row[0] < 16 ? 0 : 32768).shows();
        }
    }

    private static void n6InALoadAndAStore() {
        for (int number = 0; number < 64; number++) {
            for (int s = 4; s <= 5; s++) {
                int cell = (1000 + signed(number, 6)) & 63;
                Scene load = new Scene("opcode 6 by 1000 + n6 " + number).fullCells()
                    .at(20, Instructions.based(6, 3, s, number)).register(s, 1000);
                load.executesOne().dueResult(3, load.wordOf(cell)).shows();
                new Scene("opcode 7 by 1000 + n6 " + number).fullCells()
                    .at(20, Instructions.based(7, 3, s, number)).register(s, 1000).register(3, 1234)
                    .executesOne().dueCell(cell, 1234).shows();
            }
        }
    }

    private static void n9AsAWord() {
        for (int[] row : NINE) {
            for (int d = 2; d <= 3; d++) {
                new Scene("opcode 14 by n9 " + row[0]).at(999, Instructions.near(14, d, row[0]))
                    .executesOne().dueResult(d, 1000 + row[1]).shows();
            }
        }
    }

    private static void n9InABranch() {
        for (int[] row : NINE) {
            for (int asked = 2; asked <= 3; asked++) {
                new Scene("opcode 0 by n9 " + row[0]).at(999, Instructions.near(0, asked, row[0]))
                    .executesOne().duePlace(1000 + row[1]).shows();
            }
        }
    }

    private static void n9InTheLoadsAndStores() {
        for (int number = 0; number < 512; number++) {
            String by = " by n9 " + number;
            int cell = (1000 + signed(number, 9)) & 63;
            Scene load = new Scene("opcode 2" + by).fullCells().at(999, Instructions.near(2, 3, number));
            load.executesOne().dueResult(3, load.wordOf(cell)).shows();
            new Scene("opcode 3" + by).fullCells().at(999, Instructions.near(3, 3, number)).register(3, 1234)
                .executesOne().dueCell(cell, 1234).shows();
            Scene far = new Scene("opcode 10" + by).fullCells().at(999, Instructions.near(10, 3, number));
            far.executesOne().dueResult(3, far.wordOf(far.wordOf(cell) & 63)).shows();
            Scene farStore = new Scene("opcode 11" + by).fullCells()
                .at(999, Instructions.near(11, 3, number)).register(3, 1234);
            farStore.executesOne().dueCell(farStore.wordOf(cell) & 63, 1234).shows();
        }
    }

    private static void n11InACall() {
        for (int[] row : ELEVEN) {
            new Scene("opcode 4 by n11 " + row[0]).at(2999, Instructions.call(row[0]))
                .executesOne().duePlace(3000 + row[1]).dueRegister(7, 3000).shows();
        }
    }

    private static void everyNumberOfNineBits() {
        for (int number = 0; number < 512; number++) {
            MicroLc3 x = new MicroLc3();
            x.start(999);
            x.poke(999 & 63, Instructions.near(14, 3, number));
            x.step(1);
            Due.is("opcode 14 by n9 " + number, x.register(3), 1000 + signed(number, 9));
        }
    }

    private static void everyNumberOfElevenBits() {
        for (int number = 0; number < 2048; number++) {
            MicroLc3 x = new MicroLc3();
            x.start(2999);
            x.poke(2999 & 63, Instructions.call(number));
            x.step(1);
            Due.is("opcode 4 by n11 " + number, x.place(), 3000 + signed(number, 11));
        }
    }

    /** "the sign becomes that of the signed reading of register d". */
    private static void everyWord() {
        for (int word = 0; word < 65536; word++) {
            MicroLc3 x = new MicroLc3();
            x.poke(0, Instructions.withNumber(1, 3, 1, 0));
            x.setRegister(1, word);
            x.step(1);
            Due.is("sign() of " + word, x.sign(), Integer.signum(signed(word, 16)));
        }
    }
}
