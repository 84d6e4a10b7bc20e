/**
 * The rows of the opcodes, which promise 7 executes: every choice of the registers, those among
 * them that are the same one, the bits that a row leaves free, and the cells that name themselves.
 * A scene shows that nothing changes beside what a row says.
 */
public final class OpcodesTest {
    /** Words in which each bit is seen both set and clear; register r holds WORDS[r]. */
    private static final int[] WORDS = {0, 65535, 43690, 21845, 32768, 32767, 4660, 61680};

    public static void main(String[] args) {
        sumOrAndOfRegisters();
        sumOrAndWithN5();
        sumOrAndByBit5();
        not();
        nearPlace();
        nearLoadAndStore();
        basedLoadAndStore();
        loadAndStoreByACell();
        anInstructionThatNamesItself();
        aCellThatNamesItself();
        branch();
        branchThatIsNotAsked();
        jump();
        callByN11();
        callByARegister();
        endings();
        Due.end();
    }

    private static Scene withWords(String name) {
        Scene scene = new Scene(name).fullCells();
        for (int r = 0; r < 8; r++) {
            scene.register(r, WORDS[r]);
        }
        return scene;
    }

    /** Opcodes 1 and 5 with bit 5 clear; bits 4 and 3 are free. */
    private static void sumOrAndOfRegisters() {
        for (int d = 0; d < 8; d++) {
            for (int s = 0; s < 8; s++) {
                for (int t = 0; t < 8; t++) {
                    int free = (d + s + t) % 4 << 3;
                    withWords("sum " + d + s + t).at(20, Instructions.withRegister(1, d, s, t) | free)
                        .executesOne().dueResult(d, (WORDS[s] + WORDS[t]) % 65536).shows();
                    withWords("and " + d + s + t).at(20, Instructions.withRegister(5, d, s, t) | free)
                        .executesOne().dueResult(d, WORDS[s] & WORDS[t]).shows();
                }
            }
        }
    }

    private static void sumOrAndWithN5() {
        for (int d = 0; d < 8; d++) {
            for (int s = 0; s < 8; s++) {
                withWords("sum " + d + s + " with 5").at(20, Instructions.withNumber(1, d, s, 5))
                    .executesOne().dueResult(d, (WORDS[s] + 5) % 65536).shows();
                withWords("and " + d + s + " with 5").at(20, Instructions.withNumber(5, d, s, 5))
                    .executesOne().dueResult(d, WORDS[s] & 5).shows();
            }
        }
    }

    /** "if bit 5 is 0, else": the five bits below it are the same on both sides. */
    private static void sumOrAndByBit5() {
        for (int low = 0; low < 32; low++) {
            int t = low % 8;
            int n5 = low < 16 ? low : low + 65536 - 32;
            withWords("sum, bit 5 clear, " + low).at(20, 1 << 12 | 3 << 9 | 6 << 6 | low)
                .executesOne().dueResult(3, (4660 + WORDS[t]) % 65536).shows();
            withWords("sum, bit 5 set, " + low).at(20, 1 << 12 | 3 << 9 | 6 << 6 | 32 | low)
                .executesOne().dueResult(3, (4660 + n5) % 65536).shows();
            withWords("and, bit 5 clear, " + low).at(20, 5 << 12 | 3 << 9 | 6 << 6 | low)
                .executesOne().dueResult(3, 4660 & WORDS[t]).shows();
            withWords("and, bit 5 set, " + low).at(20, 5 << 12 | 3 << 9 | 6 << 6 | 32 | low)
                .executesOne().dueResult(3, 4660 & n5).shows();
        }
    }

    /** Opcode 9; bits 5 to 0 are free. */
    private static void not() {
        int[] free = {0, 31, 32, 63};
        for (int low : free) {
            for (int d = 0; d < 8; d++) {
                for (int s = 0; s < 8; s++) {
                    withWords("not " + d + s).at(20, Instructions.based(9, d, s, low))
                        .executesOne().dueResult(d, 65535 - WORDS[s]).shows();
                }
            }
        }
    }

    private static void nearPlace() {
        for (int d = 0; d < 8; d++) {
            withWords("near place " + d).at(1000, Instructions.near(14, d, 100))
                .executesOne().dueResult(d, 1101).shows();
        }
    }

    private static void nearLoadAndStore() {
        for (int d = 0; d < 8; d++) {
            withWords("near load " + d).at(20, Instructions.near(2, d, 9))
                .executesOne().dueResult(d, 40030).shows();
            withWords("near store " + d).at(20, Instructions.near(3, d, 9))
                .executesOne().dueCell(30, WORDS[d]).shows();
        }
    }

    private static void basedLoadAndStore() {
        for (int d = 0; d < 8; d++) {
            for (int s = 0; s < 8; s++) {
                Scene load = withWords("based load " + d + s).at(20, Instructions.based(6, d, s, 9));
                load.executesOne().dueResult(d, load.wordOf((WORDS[s] + 9) % 64)).shows();
                withWords("based store " + d + s).at(20, Instructions.based(7, d, s, 9))
                    .executesOne().dueCell((WORDS[s] + 9) % 64, WORDS[d]).shows();
            }
        }
    }

    private static void loadAndStoreByACell() {
        for (int d = 0; d < 8; d++) {
            withWords("load by a cell " + d).at(20, Instructions.near(10, d, 9)).cell(30, 50)
                .executesOne().dueResult(d, 40050).shows();
            withWords("store by a cell " + d).at(20, Instructions.near(11, d, 9)).cell(30, 50)
                .executesOne().dueCell(50, WORDS[d]).shows();
        }
    }

    /** IR has been taken before the cell changes, so an instruction may load itself and write over itself. */
    private static void anInstructionThatNamesItself() {
        int load = Instructions.near(2, 6, -1);
        withWords("load of itself").at(20, load).executesOne().dueResult(6, load).shows();
        withWords("store over itself").at(20, Instructions.near(3, 6, -1))
            .executesOne().dueCell(20, 4660).shows();
        withWords("based store over itself").at(20, Instructions.based(7, 6, 0, 20))
            .executesOne().dueCell(20, 4660).shows();
        // As an address, an instruction of n9 = -1 names cell 63.
        withWords("load by itself").at(20, Instructions.near(10, 6, -1))
            .executesOne().dueResult(6, 40063).shows();
        withWords("store by itself").at(20, Instructions.near(11, 6, -1))
            .executesOne().dueCell(63, 4660).shows();
    }

    private static void aCellThatNamesItself() {
        withWords("load by a cell that names itself").at(20, Instructions.near(10, 6, 42)).cell(63, 65535)
            .executesOne().dueResult(6, 65535).shows();
        withWords("store by a cell that names itself").at(20, Instructions.near(11, 6, 42)).cell(63, 65535)
            .executesOne().dueCell(63, 4660).shows();
    }

    /** Bits 11, 10 and 9 ask for the signs -1, 0 and 1. */
    private static void branch() {
        boolean[][] taken = {
            {false, false, false}, {false, false, true}, {false, true, false}, {false, true, true},
            {true, false, false}, {true, false, true}, {true, true, false}, {true, true, true}};
        int[] numbers = {0, 1, 255, -1, -256};
        for (int asked = 0; asked < 8; asked++) {
            for (int sign = -1; sign <= 1; sign++) {
                for (int n9 : numbers) {
                    int goal = taken[asked][sign + 1] ? 1000 + n9 : 1000;
                    new Scene("branch " + asked + " by " + n9 + " at sign " + sign).sign(sign)
                        .at(999, Instructions.near(0, asked, n9))
                        .executesOne().duePlace(goal).shows();
                }
            }
        }
    }

    private static void branchThatIsNotAsked() {
        for (int n9 = 0; n9 < 512; n9++) {
            MicroLc3 x = new MicroLc3();
            x.poke(0, n9);
            x.step(1);
            Due.is("place() after " + n9, x.place(), 1);
        }
    }

    /** Opcode 12; bits 11 to 9 and 5 to 0 are free. */
    private static void jump() {
        for (int s = 0; s < 8; s++) {
            for (int free = 0; free < 8; free++) {
                withWords("jump by register " + s).at(20, Instructions.based(12, free, s, free * 9))
                    .executesOne().duePlace(WORDS[s]).shows();
            }
        }
    }

    private static void callByN11() {
        int[][] cases = {{0, 1001}, {500, 1501}, {-500, 501}};
        for (int[] c : cases) {
            withWords("call by " + c[0]).at(1000, Instructions.call(c[0]))
                .executesOne().duePlace(c[1]).dueRegister(7, 1001).shows();
        }
    }

    /** Opcode 4 with bit 11 clear; "what register s was before" matters where s is 7. Bits 10, 9 and 5 to 0 are free. */
    private static void callByARegister() {
        for (int s = 0; s < 8; s++) {
            for (int free = 0; free < 4; free++) {
                withWords("call by register " + s).at(1000, Instructions.based(4, free, s, free * 21))
                    .executesOne().duePlace(WORDS[s]).dueRegister(7, 1001).shows();
            }
        }
    }

    /** Opcodes 15, 8 and 13; all other bits are free. */
    private static void endings() {
        int[] free = {0, 1, 2048, 4095};
        for (int bits : free) {
            withWords("opcode 15").at(20, 15 << 12 | bits).executesOne().dueStatus(MicroLc3.HALTED).shows();
            withWords("opcode 8").at(20, 8 << 12 | bits).executesOne().dueStatus(MicroLc3.ILLEGAL).shows();
            withWords("opcode 13").at(20, 13 << 12 | bits).executesOne().dueStatus(MicroLc3.ILLEGAL).shows();
        }
    }
}
