/** Promises 4 and 5. */
public final class RegistersTest {
    public static void main(String[] args) {
        everyRegisterHoldsItsOwnWord();
        bothSidesOfTheRegisters();
        bothSidesOfTheWords();
        onlyThatRegisterChanges();
        Due.end();
    }

    private static void everyRegisterHoldsItsOwnWord() {
        MicroLc3 x = new MicroLc3();
        for (int r = 0; r < 8; r++) {
            Due.is("setRegister(" + r + ", ..)", x.setRegister(r, 50000 + r), true);
        }
        for (int r = 0; r < 8; r++) {
            Due.is("register(" + r + ")", x.register(r), 50000 + r);
        }
    }

    /** "r outside 0..7: refused, answers false. Else true", and "BAD for r outside 0..7". */
    private static void bothSidesOfTheRegisters() {
        int[] registers = {Integer.MIN_VALUE, -8, -1, 0, 1, 6, 7, 8, 9, 15, 63, 65536, Integer.MAX_VALUE};
        for (int r : registers) {
            boolean right = r >= 0 && r <= 7;
            MicroLc3 x = new MicroLc3();
            Due.is("register(" + r + ") of a new object", x.register(r), right ? 0 : MicroLc3.BAD);
            Due.is("setRegister(" + r + ", 9)", x.setRegister(r, 9), right);
            Due.is("register(" + r + ") after setRegister(" + r + ", 9)", x.register(r), right ? 9 : MicroLc3.BAD);
        }
    }

    /** "word outside 0..65535: refused, answers false. Else true". */
    private static void bothSidesOfTheWords() {
        for (int r = 0; r < 8; r++) {
            MicroLc3 x = new MicroLc3();
            for (int word : Due.EDGE_WORDS) {
                Due.is("setRegister(" + r + ", " + word + ")", x.setRegister(r, word), true);
                Due.is("register(" + r + ") after " + word, x.register(r), word);
            }
            for (int word : Due.WRONG_WORDS) {
                Due.is("setRegister(" + r + ", " + word + ")", x.setRegister(r, word), false);
                Due.is("register(" + r + ") after a refused " + word, x.register(r), 65535);
            }
        }
    }

    /** "Sets a register": whatever its word and the sign, the sign stays, as does all else. */
    private static void onlyThatRegisterChanges() {
        for (int r = 0; r < 8; r++) {
            for (int word : Due.EDGE_WORDS) {
                for (int sign = -1; sign <= 1; sign++) {
                    new Scene("setRegister(" + r + ", " + word + ") at sign " + sign).fullCells().sign(sign)
                        .at(20, Instructions.HALT).executesOne().dueStatus(MicroLc3.HALTED)
                        .register(r, word).shows();
                }
            }
        }
    }
}
