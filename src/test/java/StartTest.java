/** Promises 6, 8 and 10. */
public final class StartTest {
    public static void main(String[] args) {
        edgeWordsBecomeThePlace();
        startRunsAgain(Instructions.HALT, MicroLc3.HALTED);
        startRunsAgain(8 << 12, MicroLc3.ILLEGAL);
        startRunsAgain(13 << 12, MicroLc3.ILLEGAL);
        wrongWordsAreRefused();
        startKeepsTheRest();
        placeGoesRoundAtTheEnd();
        Due.end();
    }

    private static void edgeWordsBecomeThePlace() {
        for (int word : Due.EDGE_WORDS) {
            MicroLc3 x = new MicroLc3();
            x.start(12345);
            Due.is("start(" + word + ")", x.start(word), true);
            Due.is("place() after start(" + word + ")", x.place(), word);
            Due.is("status() after start(" + word + ")", x.status(), MicroLc3.RUNNING);
            Due.is("count() after start(" + word + ")", x.count(), 0);
        }
    }

    private static void startRunsAgain(int ending, int status) {
        MicroLc3 x = new MicroLc3();
        x.poke(0, ending);
        Due.is("step(5) of " + ending, x.step(5), 1);
        Due.is("status() after " + ending, x.status(), status);
        Due.is("place() after " + ending, x.place(), 1);
        Due.is("step(5) when ended", x.step(5), 0);
        Due.is("place() when ended", x.place(), 1);
        Due.is("start(10)", x.start(10), true);
        Due.is("status() after start(10)", x.status(), MicroLc3.RUNNING);
        Due.is("step(2) after start(10)", x.step(2), 2);
        Due.is("place() after start(10), step(2)", x.place(), 12);
        Due.is("count() over both runs", x.count(), 3);
    }

    private static void wrongWordsAreRefused() {
        for (int word : Due.WRONG_WORDS) {
            MicroLc3 x = new MicroLc3();
            x.poke(20, Instructions.HALT);
            x.start(20);
            x.step(1);
            Due.is("start(" + word + ")", x.start(word), false);
            Due.is("place() after a refused start(" + word + ")", x.place(), 21);
            Due.is("status() after a refused start(" + word + ")", x.status(), MicroLc3.HALTED);
        }
    }

    private static void startKeepsTheRest() {
        MicroLc3 x = new MicroLc3();
        x.poke(0, Instructions.withNumber(1, 2, 2, -1));
        x.step(1);
        x.start(0);
        Due.is("sign() after start", x.sign(), -1);
        Due.is("count() after start", x.count(), 1);
        Due.is("register(2) after start", x.register(2), 65535);
        Due.is("peek(0) after start", x.peek(0), Instructions.withNumber(1, 2, 2, -1));
    }

    private static void placeGoesRoundAtTheEnd() {
        MicroLc3 x = new MicroLc3();
        x.poke(63, Instructions.withNumber(1, 0, 0, 1));
        x.start(65535);
        Due.is("step(1) at 65535", x.step(1), 1);
        Due.is("register(0), by cell 63", x.register(0), 1);
        Due.is("place() after 65535", x.place(), 0);
        x.start(127);
        x.step(1);
        Due.is("register(0), by cell 63 again", x.register(0), 2);
        Due.is("place() after 127", x.place(), 128);
    }
}
