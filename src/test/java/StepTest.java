/** Promises 7, 10 and 11. */
public final class StepTest {
    public static void main(String[] args) {
        theNumberIsClamped();
        theEndingInstructionCounts();
        countGoesOnOverManySteps();
        anInstructionMayChangeTheNextOne();
        Due.end();
    }

    private static void theNumberIsClamped() {
        int[] asked = {Integer.MIN_VALUE, -100, -1, 0, 1, 2, 99, 100, 101, 200, 65536, Integer.MAX_VALUE};
        int[] done = {0, 0, 0, 0, 1, 2, 99, 100, 100, 100, 100, 100};
        for (int i = 0; i < asked.length; i++) {
            MicroLc3 x = new MicroLc3();
            Due.is("step(" + asked[i] + ")", x.step(asked[i]), done[i]);
            Due.is("place() after step(" + asked[i] + ")", x.place(), done[i]);
            Due.is("count() after step(" + asked[i] + ")", x.count(), done[i]);
            Due.is("status() after step(" + asked[i] + ")", x.status(), MicroLc3.RUNNING);
        }
    }

    private static void theEndingInstructionCounts() {
        int[] endings = {15 << 12, 65535, 8 << 12, 36863, 13 << 12, 57343};
        int[] statuses = {1, 1, 2, 2, 2, 2};
        for (int i = 0; i < endings.length; i++) {
            MicroLc3 x = new MicroLc3();
            for (int r = 0; r < 8; r++) {
                x.setRegister(r, 100 + r);
            }
            x.poke(3, endings[i]);
            Due.is("step(3) before " + endings[i], x.step(3), 3);
            Due.is("status() before " + endings[i], x.status(), MicroLc3.RUNNING);
            Due.is("step(100) at " + endings[i], x.step(100), 1);
            Due.is("status() after " + endings[i], x.status(), statuses[i]);
            Due.is("step(100) after " + endings[i], x.step(100), 0);
            Due.is("count() after " + endings[i], x.count(), 4);
            Due.is("place() after " + endings[i], x.place(), 4);
            Due.is("sign() after " + endings[i], x.sign(), 0);
            for (int r = 0; r < 8; r++) {
                Due.is("register(" + r + ") after " + endings[i], x.register(r), 100 + r);
            }
        }
    }

    private static void countGoesOnOverManySteps() {
        MicroLc3 x = new MicroLc3();
        for (int call = 1; call <= 500; call++) {
            Due.is("step(100), call " + call, x.step(100), 100);
        }
        Due.is("count() after 500 times step(100)", x.count(), 50000);
        Due.is("place() after 500 times step(100)", x.place(), 50000);
    }

    private static void anInstructionMayChangeTheNextOne() {
        MicroLc3 x = new MicroLc3();
        x.setRegister(4, Instructions.HALT);
        x.poke(0, Instructions.near(3, 4, 0));
        Due.is("step(10) of a program that writes its own end", x.step(10), 2);
        Due.is("peek(1), written", x.peek(1), Instructions.HALT);
        Due.is("status() at the written end", x.status(), MicroLc3.HALTED);
    }
}
