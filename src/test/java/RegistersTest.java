/** Promises 4 and 5. */
public final class RegistersTest {
    private static final int[] WRONG_REGISTERS = {-1, 8, 9, -8, 15, Integer.MIN_VALUE, Integer.MAX_VALUE};

    public static void main(String[] args) {
        everyRegisterHoldsItsOwnWord();
        edgeWordsAreHeld();
        wrongRegistersAreRefused();
        wrongWordsAreRefused();
        nothingElseChanges();
        Due.end();
    }

    private static void everyRegisterHoldsItsOwnWord() {
        MicroLc3 x = new MicroLc3();
        for (int r = 0; r < 8; r++) {
            Due.is("setRegister(" + r + ", ..)", x.setRegister(r, 50000 + r), true);
        }
        for (int r = 0; r < 8; r++) {
            Due.is("register(" + r + ")", x.register(r), 50000 + r);
        }
    }

    private static void edgeWordsAreHeld() {
        for (int word : Due.EDGE_WORDS) {
            MicroLc3 x = new MicroLc3();
            for (int r = 0; r < 8; r += 7) {
                x.setRegister(r, 12345);
                Due.is("setRegister(" + r + ", " + word + ")", x.setRegister(r, word), true);
                Due.is("register(" + r + ") after " + word, x.register(r), word);
            }
        }
    }

    private static void wrongRegistersAreRefused() {
        for (int r : WRONG_REGISTERS) {
            MicroLc3 x = new MicroLc3();
            Due.is("setRegister(" + r + ", 7)", x.setRegister(r, 7), false);
            Due.is("register(" + r + ")", x.register(r), MicroLc3.BAD);
            for (int other = 0; other < 8; other++) {
                Due.is("register(" + other + ") after a refused setRegister(" + r + ", 7)", x.register(other), 0);
            }
        }
    }

    private static void wrongWordsAreRefused() {
        for (int word : Due.WRONG_WORDS) {
            MicroLc3 x = new MicroLc3();
            x.setRegister(5, 99);
            Due.is("setRegister(5, " + word + ")", x.setRegister(5, word), false);
            Due.is("register(5) after a refused " + word, x.register(5), 99);
            Due.is("setRegister(8, " + word + ")", x.setRegister(8, word), false);
        }
    }

    private static void nothingElseChanges() {
        MicroLc3 x = new MicroLc3();
        x.poke(0, Instructions.HALT);
        x.step(1);
        x.setRegister(1, 65535);
        x.register(1);
        Due.is("status() after setRegister", x.status(), MicroLc3.HALTED);
        Due.is("place() after setRegister", x.place(), 1);
        Due.is("sign() after setRegister", x.sign(), 0);
        Due.is("count() after setRegister", x.count(), 1);
        Due.is("peek(1) after setRegister", x.peek(1), 0);
    }
}
