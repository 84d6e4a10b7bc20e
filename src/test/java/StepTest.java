/** Promises 7 and 11 on an object that keeps running; the ends are in StatusTest, the opcodes in OpcodesTest. */
public final class StepTest {
    public static void main(String[] args) {
        theNumberIsClamped();
        theNumberIsClampedAgainAndAgain();
        manyStepsAreOneLongOne();
        anInstructionMayChangeTheNextOne();
        Due.end();
    }

    /** "n clamped into 0..100". */
    private static void theNumberIsClamped() {
        int[] asked = {Integer.MIN_VALUE, -101, -100, -1, 0, 1, 2, 99, 100, 101, 200, 65536, Integer.MAX_VALUE};
        int[] done = {0, 0, 0, 0, 0, 1, 2, 99, 100, 100, 100, 100, 100};
        for (int i = 0; i < asked.length; i++) {
            new Scene("step(" + asked[i] + ") of a new object")
                .executes(asked[i], done[i]).duePlace(done[i]).shows();
            new Scene("step(" + asked[i] + ") of an object with sign -1").sign(-1).place(1000)
                .executes(asked[i], done[i]).duePlace(1000 + done[i]).shows();
        }
    }

    /** What one call leaves over is not owed to the next one. */
    private static void theNumberIsClampedAgainAndAgain() {
        new Scene("step(101), step(0), step(1)").executes(101, 100).executes(0, 0).executes(1, 1)
            .duePlace(101).shows();
        new Scene("step(-50), step(100)").executes(-50, 0).executes(100, 100).duePlace(100).shows();
    }

    private static void manyStepsAreOneLongOne() {
        MicroLc3 x = new MicroLc3();
        MicroLc3 y = new MicroLc3();
        for (int cell = 0; cell < 64; cell++) {
            int instruction = Instructions.withNumber(1, cell % 8, (cell + 3) % 8, cell);
            x.poke(cell, instruction);
            y.poke(cell, instruction);
        }
        Due.is("step(100) at once", x.step(100), 100);
        for (int i = 1; i <= 100; i++) {
            Due.is("step(1), time " + i, y.step(1), 1);
            Due.is("count() after " + i + " times step(1)", y.count(), i);
        }
        Shown.same("100 times step(1)", Shown.by(y), Shown.by(x));
    }

    private static void anInstructionMayChangeTheNextOne() {
        new Scene("a program that writes its own end").register(4, Instructions.HALT)
            .cell(0, Instructions.near(3, 4, 0))
            .executes(10, 2).dueCell(1, Instructions.HALT).duePlace(2).dueStatus(MicroLc3.HALTED).shows();
    }
}
