/**
 * Runs many programs, the same ones each time, on MicroLc3 and on a second reading of the
 * document without microcode. Registers, place, sign, status and count are compared after every
 * instruction and the cells at the end, so that no object gets more than its 512 calls.
 */
public final class PlainModelTest {
    private static final int PROGRAMS = 10000;
    private static final int INSTRUCTIONS = 20;

    private static final int[] register = new int[8];
    private static final int[] cell = new int[64];
    private static int pc;
    private static int sign;
    private static int status;
    private static long seed = 1;

    public static void main(String[] args) {
        for (int program = 0; program < PROGRAMS; program++) {
            run(program);
        }
        Due.end();
    }

    private static void run(int program) {
        MicroLc3 x = new MicroLc3();
        for (int i = 0; i < 64; i++) {
            cell[i] = nextWord();
            x.poke(i, cell[i]);
        }
        for (int i = 0; i < 8; i++) {
            register[i] = nextWord();
            x.setRegister(i, register[i]);
        }
        pc = nextWord();
        sign = 0;
        status = 0;
        x.start(pc);
        for (int done = 1; done <= INSTRUCTIONS; done++) {
            if (status != 0) {
                pc = nextWord();
                status = 0;
                x.start(pc);
            }
            execute();
            Due.is("program " + program + ": step(1)", x.step(1), 1);
            compare(x, "program " + program + ", instruction " + done + ": ");
            Due.is("program " + program + ": count()", x.count(), done);
        }
        for (int i = 0; i < 64; i++) {
            Due.is("program " + program + ": peek(" + i + ") at the end", x.peek(i), cell[i]);
        }
    }

    private static void compare(MicroLc3 x, String where) {
        for (int i = 0; i < 8; i++) {
            Due.is(where + "register(" + i + ")", x.register(i), register[i]);
        }
        Due.is(where + "place()", x.place(), pc);
        Due.is(where + "sign()", x.sign(), sign);
        Due.is(where + "status()", x.status(), status);
    }

    private static int nextWord() {
        seed = seed * 6364136223846793005L + 1442695040888963407L;
        return (int) (seed >>> 40) & 65535;
    }

    private static int signed(int word, int bits) {
        return word << (32 - bits) >> (32 - bits);
    }

    private static int read(int address) {
        return cell[address & 63];
    }

    private static void write(int address, int word) {
        cell[address & 63] = word;
    }

    private static void result(int d, int number) {
        register[d] = number & 65535;
        sign = Integer.signum(signed(number, 16));
    }

    private static boolean branches(int asked) {
        return asked >= 4 && sign == -1 || asked / 2 % 2 == 1 && sign == 0 || asked % 2 == 1 && sign == 1;
    }

    private static void execute() {
        int ir = read(pc);
        pc = (pc + 1) & 65535;
        int d = ir / 512 % 8;
        int s = ir / 64 % 8;
        int near = pc + signed(ir, 9);
        int based = register[s] + signed(ir, 6);
        int operand = ir / 32 % 2 == 0 ? register[ir % 8] : signed(ir, 5);
        switch (ir / 4096) {
            case 0 -> pc = branches(d) ? near & 65535 : pc;
            case 1 -> result(d, register[s] + operand);
            case 2 -> result(d, read(near));
            case 3 -> write(near, register[d]);
            case 4 -> {
                int goal = ir / 2048 % 2 == 1 ? pc + signed(ir, 11) : register[s];
                register[7] = pc;
                pc = goal & 65535;
            }
            case 5 -> result(d, register[s] & operand);
            case 6 -> result(d, read(based));
            case 7 -> write(based, register[d]);
            case 9 -> result(d, ~register[s]);
            case 10 -> result(d, read(read(near)));
            case 11 -> write(read(near), register[d]);
            case 12 -> pc = register[s];
            case 14 -> result(d, near);
            case 15 -> status = 1;
            default -> status = 2;
        }
    }
}
