/**
 * Promises 2 to 7: a call with an argument outside its range is refused with its own answer, and
 * changes nothing that a later call shows. Every such call is made on objects of several states,
 * and each object is looked at as a whole before the call, after it, and after some more steps, in
 * which it must go the way of a twin that was not called.
 */
public final class RefusedCallsTest {
    private static final int[] WRONG_CELLS = {-1, 64, 65, 127, -64, 65536, Integer.MIN_VALUE, Integer.MAX_VALUE};
    private static final int[] WRONG_REGISTERS = {-1, 8, 9, 15, -8, 65536, Integer.MIN_VALUE, Integer.MAX_VALUE};
    private static final int STATES = 6;

    private interface Call {
        int answer(MicroLc3 x);
    }

    public static void main(String[] args) {
        pokeOutsideTheCells();
        pokeOutsideTheWords();
        peekOutsideTheCells();
        setRegisterOutsideTheRegisters();
        setRegisterOutsideTheWords();
        registerOutsideTheRegisters();
        startOutsideTheWords();
        stepOfNothing();
        Due.end();
    }

    /** "cell outside 0..63 .. refused, answers false", with a word that is right or wrong. */
    private static void pokeOutsideTheCells() {
        for (int cell : WRONG_CELLS) {
            for (int word : Due.EDGE_WORDS) {
                changesNothing("poke(" + cell + ", " + word + ")", x -> x.poke(cell, word) ? 1 : 0, 0);
            }
            for (int word : Due.WRONG_WORDS) {
                changesNothing("poke(" + cell + ", " + word + ")", x -> x.poke(cell, word) ? 1 : 0, 0);
            }
        }
    }

    private static void pokeOutsideTheWords() {
        for (int cell = 0; cell < 64; cell += 7) {
            for (int word : Due.WRONG_WORDS) {
                int right = cell;
                changesNothing("poke(" + right + ", " + word + ")", x -> x.poke(right, word) ? 1 : 0, 0);
            }
        }
    }

    private static void peekOutsideTheCells() {
        for (int cell : WRONG_CELLS) {
            changesNothing("peek(" + cell + ")", x -> x.peek(cell), MicroLc3.BAD);
        }
    }

    private static void setRegisterOutsideTheRegisters() {
        for (int r : WRONG_REGISTERS) {
            for (int word : Due.EDGE_WORDS) {
                changesNothing("setRegister(" + r + ", " + word + ")", x -> x.setRegister(r, word) ? 1 : 0, 0);
            }
            for (int word : Due.WRONG_WORDS) {
                changesNothing("setRegister(" + r + ", " + word + ")", x -> x.setRegister(r, word) ? 1 : 0, 0);
            }
        }
    }

    private static void setRegisterOutsideTheWords() {
        for (int r = 0; r < 8; r++) {
            for (int word : Due.WRONG_WORDS) {
                int right = r;
                changesNothing("setRegister(" + right + ", " + word + ")", x -> x.setRegister(right, word) ? 1 : 0, 0);
            }
        }
    }

    private static void registerOutsideTheRegisters() {
        for (int r : WRONG_REGISTERS) {
            changesNothing("register(" + r + ")", x -> x.register(r), MicroLc3.BAD);
        }
    }

    private static void startOutsideTheWords() {
        for (int word : Due.WRONG_WORDS) {
            changesNothing("start(" + word + ")", x -> x.start(word) ? 1 : 0, 0);
        }
    }

    /** A number below 0 is not refused but clamped to 0, which changes nothing either. */
    private static void stepOfNothing() {
        int[] numbers = {0, -1, -2, -100, -101, Integer.MIN_VALUE};
        for (int n : numbers) {
            changesNothing("step(" + n + ")", x -> x.step(n), 0);
        }
    }

    private static void changesNothing(String name, Call call, int answer) {
        for (int state = 0; state < STATES; state++) {
            String where = name + " in state " + state;
            MicroLc3 x = inState(state);
            int[] before = Shown.by(x);
            Due.is(where, call.answer(x), answer);
            Shown.same(where + ", then", Shown.by(x), before);

            MicroLc3 twin = inState(state);
            Due.is(where + ", then step(3)", x.step(3), twin.step(3));
            Shown.same(where + ", then step(3)", Shown.by(x), Shown.by(twin));
        }
    }

    /** 0 new, 1 running with sign -1, 2 halted, 3 and 4 illegal, 5 full of the greatest word. */
    private static MicroLc3 inState(int state) {
        int[] lastInstruction = {0, 0, 15 << 12, 8 << 12, 13 << 12, 0};
        MicroLc3 x = new MicroLc3();
        if (state == 5) {
            fill(x);
        } else if (state != 0) {
            x.setRegister(5, 77);
            x.poke(40, 88);
            x.poke(0, Instructions.withNumber(1, 2, 2, -1));
            x.poke(1, lastInstruction[state]);
            x.poke(2, Instructions.near(3, 5, 7));
            x.poke(3, Instructions.withRegister(1, 4, 5, 5));
            x.step(2);
        }
        return x;
    }

    private static void fill(MicroLc3 x) {
        for (int cell = 0; cell < 64; cell++) {
            x.poke(cell, 65535);
        }
        for (int r = 0; r < 8; r++) {
            x.setRegister(r, 65535);
        }
        x.start(65535);
    }
}
