/** Promise 9: the sign after each opcode that sets it, and its keeping by the others. */
public final class SignTest {
    private static final int[] WORDS = {0, 1, 2, 32767, 32768, 32769, 65534, 65535};
    private static final int[] SIGNS = {0, 1, 1, 1, -1, -1, -1, -1};

    public static void main(String[] args) {
        for (int i = 0; i < WORDS.length; i++) {
            setBy("add", Instructions.withNumber(1, 6, 1, 0), WORDS[i], WORDS[i], SIGNS[i]);
            setBy("add of registers", Instructions.withRegister(1, 6, 1, 0), WORDS[i], WORDS[i], SIGNS[i]);
            setBy("and", Instructions.withNumber(5, 6, 1, -1), WORDS[i], WORDS[i], SIGNS[i]);
            setBy("and of registers", Instructions.withRegister(5, 6, 1, 1), WORDS[i], WORDS[i], SIGNS[i]);
            setBy("not", Instructions.based(9, 6, 1, 63), 65535 - WORDS[i], WORDS[i], SIGNS[i]);
            setBy("near load", Instructions.near(2, 6, 9), WORDS[i], WORDS[i], SIGNS[i]);
            setBy("based load", Instructions.based(6, 6, 2, 0), WORDS[i], WORDS[i], SIGNS[i]);
            setBy("load by a cell", Instructions.near(10, 6, 10), WORDS[i], WORDS[i], SIGNS[i]);
            placeSetsIt(WORDS[i], SIGNS[i]);
            keptByTheOthers(WORDS[i], SIGNS[i]);
        }
        Due.end();
    }

    /** Executes the instruction with the word in register 1 and in cell 10, which register 2 and cell 11 name. */
    private static void setBy(String name, int instruction, int word, int outcome, int sign) {
        for (int before = -1; before <= 1; before++) {
            MicroLc3 x = withSign(before);
            x.setRegister(1, word);
            x.setRegister(2, 10);
            x.poke(10, word);
            x.poke(11, 10);
            x.poke(0, instruction);
            x.step(1);
            Due.is(name + " of " + word + ": register(6)", x.register(6), outcome);
            Due.is(name + " of " + word + ": sign()", x.sign(), sign);
        }
    }

    private static void placeSetsIt(int word, int sign) {
        MicroLc3 x = withSign(sign == 1 ? -1 : 1);
        int from = (word + 65535) & 65535;
        x.start(from);
        x.poke(from & 63, Instructions.near(14, 6, 0));
        x.step(1);
        Due.is("near place " + word + ": register(6)", x.register(6), word);
        Due.is("near place " + word + ": sign()", x.sign(), sign);
    }

    private static void keptByTheOthers(int word, int sign) {
        int[] opcodes = {0, 3, 4, 7, 8, 11, 12, 13, 15};
        for (int opcode : opcodes) {
            for (int before = -1; before <= 1; before++) {
                MicroLc3 x = withSign(before);
                for (int r = 0; r < 8; r++) {
                    x.setRegister(r, word);
                }
                x.poke(0, opcode << 12 | 3 << 9 | 2 << 6 | 9);
                x.step(1);
                Due.is("opcode " + opcode + " with " + word + ": sign()", x.sign(), before);
            }
        }
    }

    /** A new object whose sign is as asked, all registers 0 and the place 0. */
    private static MicroLc3 withSign(int sign) {
        MicroLc3 x = new MicroLc3();
        x.poke(0, Instructions.withNumber(1, 0, 0, sign));
        x.step(1);
        Due.is("sign() made " + sign, x.sign(), sign);
        x.setRegister(0, 0);
        x.start(0);
        return x;
    }
}
