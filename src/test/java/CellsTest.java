/** Promises 2 and 3. */
public final class CellsTest {
    public static void main(String[] args) {
        everyCellHoldsItsOwnWord();
        bothSidesOfTheCells();
        bothSidesOfTheWords();
        onlyThatCellChanges();
        Due.end();
    }

    private static void everyCellHoldsItsOwnWord() {
        MicroLc3 x = new MicroLc3();
        for (int cell = 0; cell < 64; cell++) {
            Due.is("poke(" + cell + ", ..)", x.poke(cell, 60000 + cell), true);
        }
        for (int cell = 0; cell < 64; cell++) {
            Due.is("peek(" + cell + ")", x.peek(cell), 60000 + cell);
        }
    }

    /** "cell outside 0..63: refused, answers false. Else true", and "BAD for cell outside 0..63". */
    private static void bothSidesOfTheCells() {
        int[] cells = {Integer.MIN_VALUE, -64, -1, 0, 1, 62, 63, 64, 65, 127, 65536, Integer.MAX_VALUE};
        for (int cell : cells) {
            boolean right = cell >= 0 && cell <= 63;
            MicroLc3 x = new MicroLc3();
            Due.is("peek(" + cell + ") of a new object", x.peek(cell), right ? 0 : MicroLc3.BAD);
            Due.is("poke(" + cell + ", 7)", x.poke(cell, 7), right);
            Due.is("peek(" + cell + ") after poke(" + cell + ", 7)", x.peek(cell), right ? 7 : MicroLc3.BAD);
        }
    }

    /** "word outside 0..65535: refused, answers false. Else true". */
    private static void bothSidesOfTheWords() {
        for (int cell = 0; cell < 64; cell++) {
            MicroLc3 x = new MicroLc3();
            for (int word : Due.EDGE_WORDS) {
                Due.is("poke(" + cell + ", " + word + ")", x.poke(cell, word), true);
                Due.is("peek(" + cell + ") after " + word, x.peek(cell), word);
            }
            for (int word : Due.WRONG_WORDS) {
                Due.is("poke(" + cell + ", " + word + ")", x.poke(cell, word), false);
                Due.is("peek(" + cell + ") after a refused " + word, x.peek(cell), 65535);
            }
        }
    }

    /** "Sets a cell": on a halted object with the sign -1, nothing else is set. */
    private static void onlyThatCellChanges() {
        for (int cell = 0; cell < 64; cell++) {
            for (int word : Due.EDGE_WORDS) {
                new Scene("poke(" + cell + ", " + word + ")").fullCells().sign(-1)
                    .at(20, Instructions.HALT).executesOne().dueStatus(MicroLc3.HALTED)
                    .cell(cell, word).shows();
            }
        }
    }
}
