/** Promises 6 and 8; what start does after an end is in StatusTest. */
public final class StartTest {
    public static void main(String[] args) {
        bothSidesOfTheWords();
        theRestStays();
        placeIsThatOfTheNextInstruction();
        Due.end();
    }

    /** "word outside 0..65535: refused, answers false. Else true". */
    private static void bothSidesOfTheWords() {
        for (int word : Due.EDGE_WORDS) {
            MicroLc3 x = new MicroLc3();
            x.start(12345);
            Due.is("start(" + word + ")", x.start(word), true);
            Due.is("place() after start(" + word + ")", x.place(), word);
        }
        for (int word : Due.WRONG_WORDS) {
            MicroLc3 x = new MicroLc3();
            x.start(12345);
            Due.is("start(" + word + ")", x.start(word), false);
            Due.is("place() after a refused start(" + word + ")", x.place(), 12345);
        }
    }

    /** "Sets PC, and the status becomes RUNNING": nothing else is set, neither the sign nor the count. */
    private static void theRestStays() {
        for (int word : Due.EDGE_WORDS) {
            for (int sign = -1; sign <= 1; sign++) {
                new Scene("start(" + word + ") at sign " + sign).fullCells().sign(sign).register(5, 77)
                    .place(word).shows();
            }
        }
    }

    private static void placeIsThatOfTheNextInstruction() {
        MicroLc3 x = new MicroLc3();
        x.poke(7, Instructions.withNumber(1, 0, 0, 1));
        x.start(5);
        Due.is("step(2) from 5", x.step(2), 2);
        Due.is("place() after step(2) from 5", x.place(), 7);
        Due.is("register(0) before the instruction at 7", x.register(0), 0);
        Due.is("step(1) at 7", x.step(1), 1);
        Due.is("register(0) after the instruction at 7", x.register(0), 1);
        Due.is("place() after the instruction at 7", x.place(), 8);
    }
}
