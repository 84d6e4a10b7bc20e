/** The instructions that promise 7 executes, one by one, with the edges of their numbers. */
public final class OpcodesTest {
    public static void main(String[] args) {
        add();
        and();
        not();
        nearPlace();
        nearLoadAndStore();
        basedLoadAndStore();
        loadAndStoreByACell();
        branch();
        jump();
        call();
        Due.end();
    }

    private static MicroLc3 at(int place, int instruction) {
        MicroLc3 x = new MicroLc3();
        x.start(place);
        x.poke(place & 63, instruction);
        return x;
    }

    private static void add() {
        int[][] sums = {{3, 4, 7}, {65535, 1, 0}, {65535, 65535, 65534}, {32768, 32768, 0}, {32767, 1, 32768}};
        for (int[] sum : sums) {
            MicroLc3 x = at(0, Instructions.withRegister(1, 0, 7, 5));
            x.setRegister(7, sum[0]);
            x.setRegister(5, sum[1]);
            x.step(1);
            Due.is(sum[0] + " + " + sum[1], x.register(0), sum[2]);
            Due.is("register 7 after a sum", x.register(7), sum[0]);
            Due.is("register 5 after a sum", x.register(5), sum[1]);
        }
        int[][] numbers = {{10, 15, 25}, {10, -16, 65530}, {65535, 15, 14}, {0, -1, 65535}, {16, -16, 0}, {9, 0, 9}};
        for (int[] sum : numbers) {
            MicroLc3 x = at(0, Instructions.withNumber(1, 7, 0, sum[1]));
            x.setRegister(0, sum[0]);
            x.step(1);
            Due.is(sum[0] + " + n5 " + sum[1], x.register(7), sum[2]);
        }
        MicroLc3 x = at(0, Instructions.withRegister(1, 3, 3, 3));
        x.setRegister(3, 40000);
        x.step(1);
        Due.is("40000 + 40000 in one register", x.register(3), 14464);
    }

    private static void and() {
        int[][] words = {{65535, 4660, 4660}, {43690, 21845, 0}, {61680, 65280, 61440}};
        for (int[] pair : words) {
            MicroLc3 x = at(0, Instructions.withRegister(5, 0, 7, 5));
            x.setRegister(7, pair[0]);
            x.setRegister(5, pair[1]);
            x.step(1);
            Due.is(pair[0] + " & " + pair[1], x.register(0), pair[2]);
        }
        int[][] numbers = {{65535, 15, 15}, {65535, -16, 65520}, {65535, -1, 65535}, {4660, -1, 4660}, {4660, 0, 0}};
        for (int[] pair : numbers) {
            MicroLc3 x = at(0, Instructions.withNumber(5, 7, 0, pair[1]));
            x.setRegister(0, pair[0]);
            x.step(1);
            Due.is(pair[0] + " & n5 " + pair[1], x.register(7), pair[2]);
        }
    }

    private static void not() {
        int[][] words = {{0, 65535}, {65535, 0}, {43690, 21845}, {32768, 32767}};
        int[] lowestBits = {0, 31, 32, 63};
        for (int[] pair : words) {
            for (int low : lowestBits) {
                MicroLc3 x = at(0, Instructions.based(9, 7, 2, low));
                x.setRegister(2, pair[0]);
                x.step(1);
                Due.is("not " + pair[0], x.register(7), pair[1]);
                Due.is("register 2 after a not", x.register(2), pair[0]);
            }
        }
    }

    private static void nearPlace() {
        int[][] cases = {{0, 0, 1}, {0, 255, 256}, {0, -256, 65281}, {65535, -1, 65535}, {65535, 255, 255}, {300, -256, 45}};
        for (int[] c : cases) {
            MicroLc3 x = at(c[0], Instructions.near(14, 5, c[1]));
            x.step(1);
            Due.is("near place " + c[1] + " at " + c[0], x.register(5), c[2]);
            Due.is("place() after it", x.place(), (c[0] + 1) & 65535);
        }
    }

    /** Rows: the place, n9, and the cell that is named. */
    private static void nearLoadAndStore() {
        int[][] cases = {{0, 5, 6}, {0, 62, 63}, {0, 63, 0}, {0, 255, 0}, {0, -256, 1}, {0, -2, 63},
            {65535, 0, 0}, {65535, -1, 63}, {64, 9, 10}, {1000, -100, 5}, {1000, 100, 13}};
        for (int[] c : cases) {
            int load = Instructions.near(2, 3, c[1]);
            MicroLc3 x = at(c[0], load);
            boolean itself = c[2] == (c[0] & 63);
            if (!itself) {
                x.poke(c[2], 4321);
            }
            x.step(1);
            Due.is("load " + c[1] + " at " + c[0], x.register(3), itself ? load : 4321);

            MicroLc3 y = at(c[0], Instructions.near(3, 3, c[1]));
            y.setRegister(3, 65535);
            y.step(1);
            Due.is("store " + c[1] + " at " + c[0], y.peek(c[2]), 65535);
            Due.is("register 3 after a store", y.register(3), 65535);
        }
    }

    /** Rows: the word of register s, n6, and the cell that is named. */
    private static void basedLoadAndStore() {
        int[][] cases = {{10, 0, 10}, {10, 31, 41}, {42, -32, 10}, {65535, 3, 2}, {2, -3, 63}, {64, 5, 5}, {65535, 0, 63}};
        for (int[] c : cases) {
            MicroLc3 x = at(20, Instructions.based(6, 2, 6, c[1]));
            x.poke(c[2], 4321);
            x.setRegister(6, c[0]);
            x.step(1);
            Due.is("load by " + c[0] + " + " + c[1], x.register(2), 4321);
            Due.is("register 6 after a load", x.register(6), c[0]);

            MicroLc3 y = at(20, Instructions.based(7, 2, 6, c[1]));
            y.setRegister(6, c[0]);
            y.setRegister(2, 1234);
            y.step(1);
            Due.is("store by " + c[0] + " + " + c[1], y.peek(c[2]), 1234);
        }
    }

    /** Rows: n9 at place 0, the cell it names, that cell's word, and the other cell named by it. */
    private static void loadAndStoreByACell() {
        int[][] cases = {{5, 6, 30, 30}, {62, 63, 65534, 62}, {-2, 63, 64 + 7, 7}, {-256, 1, 32768 + 9, 9}, {0, 1, 63, 63}};
        for (int[] c : cases) {
            MicroLc3 x = at(0, Instructions.near(10, 4, c[0]));
            x.poke(c[1], c[2]);
            x.poke(c[3], 4321);
            x.step(1);
            Due.is("load by cell " + c[1], x.register(4), 4321);
            Due.is("cell " + c[1] + " after a load by it", x.peek(c[1]), c[2]);

            MicroLc3 y = at(0, Instructions.near(11, 4, c[0]));
            y.poke(c[1], c[2]);
            y.setRegister(4, 1234);
            y.step(1);
            Due.is("store by cell " + c[1], y.peek(c[3]), 1234);
            Due.is("cell " + c[1] + " after a store by it", y.peek(c[1]), c[2]);
        }
        aCellThatNamesItself();
    }

    private static void aCellThatNamesItself() {
        MicroLc3 x = at(0, Instructions.near(10, 4, 62));
        x.poke(63, 65535);
        x.step(1);
        Due.is("load by cell 63 that names itself", x.register(4), 65535);

        MicroLc3 y = at(0, Instructions.near(11, 4, 62));
        y.poke(63, 65535);
        y.setRegister(4, 1234);
        y.step(1);
        Due.is("store by cell 63 that names itself", y.peek(63), 1234);
    }

    private static void branch() {
        int[] numbers = {0, 1, 255, -1, -256};
        for (int sign = -1; sign <= 1; sign++) {
            for (int asked = 0; asked < 8; asked++) {
                for (int n9 : numbers) {
                    MicroLc3 x = at(3, Instructions.withNumber(1, 0, 0, sign));
                    x.poke(4, Instructions.near(0, asked, n9));
                    x.step(2);
                    boolean taken = sign == -1 && (asked & 4) != 0 || sign == 0 && (asked & 2) != 0
                        || sign == 1 && (asked & 1) != 0;
                    int want = taken ? (5 + n9) & 65535 : 5;
                    Due.is("branch " + asked + " by " + n9 + " at sign " + sign, x.place(), want);
                }
            }
        }
    }

    private static void jump() {
        for (int word : Due.EDGE_WORDS) {
            for (int s = 0; s < 8; s++) {
                MicroLc3 x = at(9, Instructions.based(12, 5, s, 63));
                x.setRegister(s, word);
                x.step(1);
                Due.is("jump by register " + s, x.place(), word);
                Due.is("register " + s + " after a jump", x.register(s), word);
                Due.is("register 7 after a jump", x.register(7), s == 7 ? word : 0);
            }
        }
    }

    private static void call() {
        int[][] cases = {{0, 0, 1}, {0, 1023, 1024}, {0, -1024, 64513}, {0, -1, 0}, {65535, 5, 5}, {65535, -1, 65535}};
        for (int[] c : cases) {
            MicroLc3 x = at(c[0], Instructions.call(c[1]));
            x.step(1);
            Due.is("call " + c[1] + " at " + c[0], x.place(), c[2]);
            Due.is("register 7 after a call", x.register(7), (c[0] + 1) & 65535);
        }
        for (int s = 0; s < 8; s++) {
            MicroLc3 x = at(9, Instructions.based(4, 3, s, 63));
            x.setRegister(s, 65500);
            x.step(1);
            Due.is("call by register " + s, x.place(), 65500);
            Due.is("register 7 after a call by register " + s, x.register(7), 10);
            Due.is("register " + s + " after a call by it", x.register(s), s == 7 ? 10 : 65500);
        }
    }
}
