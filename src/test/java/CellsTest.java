/** Promises 2 and 3. */
public final class CellsTest {
    private static final int[] WRONG_CELLS = {-1, 64, 65, -64, 127, Integer.MIN_VALUE, Integer.MAX_VALUE};

    public static void main(String[] args) {
        everyCellHoldsItsOwnWord();
        edgeWordsAreHeld();
        wrongCellsAreRefused();
        wrongWordsAreRefused();
        nothingElseChanges();
        Due.end();
    }

    private static void everyCellHoldsItsOwnWord() {
        MicroLc3 x = new MicroLc3();
        for (int cell = 0; cell < 64; cell++) {
            Due.is("poke(" + cell + ", ..)", x.poke(cell, 60000 + cell), true);
        }
        for (int cell = 0; cell < 64; cell++) {
            Due.is("peek(" + cell + ")", x.peek(cell), 60000 + cell);
        }
    }

    private static void edgeWordsAreHeld() {
        for (int word : Due.EDGE_WORDS) {
            MicroLc3 x = new MicroLc3();
            for (int cell = 0; cell < 64; cell += 63) {
                x.poke(cell, 12345);
                Due.is("poke(" + cell + ", " + word + ")", x.poke(cell, word), true);
                Due.is("peek(" + cell + ") after " + word, x.peek(cell), word);
            }
        }
    }

    private static void wrongCellsAreRefused() {
        for (int cell : WRONG_CELLS) {
            MicroLc3 x = new MicroLc3();
            Due.is("poke(" + cell + ", 7)", x.poke(cell, 7), false);
            Due.is("peek(" + cell + ")", x.peek(cell), MicroLc3.BAD);
            for (int other = 0; other < 64; other++) {
                Due.is("peek(" + other + ") after a refused poke(" + cell + ", 7)", x.peek(other), 0);
            }
        }
    }

    private static void wrongWordsAreRefused() {
        for (int word : Due.WRONG_WORDS) {
            MicroLc3 x = new MicroLc3();
            x.poke(5, 99);
            Due.is("poke(5, " + word + ")", x.poke(5, word), false);
            Due.is("peek(5) after a refused " + word, x.peek(5), 99);
            Due.is("poke(64, " + word + ")", x.poke(64, word), false);
        }
    }

    private static void nothingElseChanges() {
        MicroLc3 x = new MicroLc3();
        x.poke(0, Instructions.HALT);
        x.step(1);
        x.poke(1, 65535);
        x.peek(1);
        Due.is("status() after poke", x.status(), MicroLc3.HALTED);
        Due.is("place() after poke", x.place(), 1);
        Due.is("sign() after poke", x.sign(), 0);
        Due.is("count() after poke", x.count(), 1);
        Due.is("register(1) after poke", x.register(1), 0);
    }
}
