public final class MicroLc3 {
    public static final int RUNNING = 0;
    public static final int HALTED = 1;
    public static final int ILLEGAL = 2;
    public static final int BAD = -1;

    private static final int REGISTERS = 8;
    private static final int LINK = 7;
    private static final int CELLS = 64;
    private static final int LAST_WORD = 65535;
    private static final int HIGHEST_BIT = 32768;
    private static final int MOST_STEPS = 100;

    // A micro-instruction is an int of five fields: when it acts, a left and a
    // right input, the function that joins them, and the target of the outcome.
    // Zero in a field is its plainest choice, so a row names only what it needs,
    // and a row of 0 does nothing.
    private static final int WHEN = 7;
    private static final int WHEN_BIT_5_CLEAR = 1;
    private static final int WHEN_BIT_5_SET = 2;
    private static final int WHEN_BIT_11_CLEAR = 3;
    private static final int WHEN_BIT_11_SET = 4;
    private static final int WHEN_SIGN_ASKED = 5;

    private static final int LEFT = 7 << 4;
    private static final int LEFT_PC = 1 << 4;
    private static final int LEFT_ADDRESS = 2 << 4;
    private static final int LEFT_CELL = 3 << 4;
    private static final int LEFT_S = 4 << 4;
    private static final int LEFT_D = 5 << 4;

    private static final int RIGHT = 7 << 8;
    private static final int RIGHT_ONE = 1 << 8;
    private static final int RIGHT_T = 2 << 8;
    private static final int RIGHT_N5 = 3 << 8;
    private static final int RIGHT_N6 = 4 << 8;
    private static final int RIGHT_N9 = 5 << 8;
    private static final int RIGHT_N11 = 6 << 8;

    // The function that no row names is the sum.
    private static final int FUNCTION = 3 << 12;
    private static final int FUNCTION_AND = 1 << 12;
    private static final int FUNCTION_NOT = 2 << 12;

    private static final int TO = 15 << 16;
    private static final int TO_PC = 1 << 16;
    private static final int TO_IR = 2 << 16;
    private static final int TO_ADDRESS = 3 << 16;
    private static final int TO_CELL = 4 << 16;
    private static final int TO_LINK = 5 << 16;
    // Every instruction that sets register d sets the sign by it, and no other
    // one does, so one target serves both.
    private static final int TO_D_AND_SIGN = 6 << 16;
    private static final int TO_HALTED = 7 << 16;
    private static final int TO_ILLEGAL = 8 << 16;

    // One routine for each opcode, and after them the one that fetches.
    private static final int ROWS = 4;
    private static final int FETCH = 16;
    private static final int MICROCODE_ROWS = (FETCH + 1) * ROWS;

    // Each object holds its own microcode, because the language allows no
    // static array.
    private final int[] microcode = new int[MICROCODE_ROWS];
    private final int[] registers = new int[REGISTERS];
    private final int[] cells = new int[CELLS];
    private int pc = 0;
    private int ir = 0;
    // The address that the next cell read or written is named by.
    private int address = 0;
    private int sign = 0;
    private int status = RUNNING;
    private int count = 0;

    public MicroLc3() {
        writeFetchRoutine();
        writeCalculationRoutines();
        writeLoadRoutines();
        writeStoreRoutines();
        writeControlRoutines();
    }

    public boolean poke(int cell, int word) {
        if (!isCell(cell) || !isWord(word)) {
            return false;
        }
        cells[cell] = word;
        return true;
    }

    public int peek(int cell) {
        return isCell(cell) ? cells[cell] : BAD;
    }

    public boolean setRegister(int r, int word) {
        if (!isRegister(r) || !isWord(word)) {
            return false;
        }
        registers[r] = word;
        return true;
    }

    public int register(int r) {
        return isRegister(r) ? registers[r] : BAD;
    }

    public boolean start(int word) {
        if (!isWord(word)) {
            return false;
        }
        pc = word;
        status = RUNNING;
        return true;
    }

    public int step(int n) {
        int most = n > MOST_STEPS ? MOST_STEPS : n;
        int executed = 0;
        while (executed < most && status == RUNNING) {
            runRoutine(FETCH);
            runRoutine((ir >> 12) & 15);
            executed++;
        }
        count += executed;
        return executed;
    }

    public int place() {
        return pc;
    }

    public int sign() {
        return sign;
    }

    public int status() {
        return status;
    }

    public int count() {
        return count;
    }

    private void writeFetchRoutine() {
        writeRow(FETCH, 0, TO_ADDRESS | LEFT_PC);
        writeRow(FETCH, 1, TO_IR | LEFT_CELL);
        writeRow(FETCH, 2, TO_PC | LEFT_PC | RIGHT_ONE);
    }

    private void writeCalculationRoutines() {
        writeRow(1, 0, WHEN_BIT_5_CLEAR | TO_D_AND_SIGN | LEFT_S | RIGHT_T);
        writeRow(1, 1, WHEN_BIT_5_SET | TO_D_AND_SIGN | LEFT_S | RIGHT_N5);

        writeRow(5, 0, WHEN_BIT_5_CLEAR | TO_D_AND_SIGN | LEFT_S | FUNCTION_AND | RIGHT_T);
        writeRow(5, 1, WHEN_BIT_5_SET | TO_D_AND_SIGN | LEFT_S | FUNCTION_AND | RIGHT_N5);

        writeRow(9, 0, TO_D_AND_SIGN | FUNCTION_NOT | LEFT_S);

        writeRow(14, 0, TO_D_AND_SIGN | LEFT_PC | RIGHT_N9);
    }

    private void writeLoadRoutines() {
        writeRow(2, 0, TO_ADDRESS | LEFT_PC | RIGHT_N9);
        writeRow(2, 1, TO_D_AND_SIGN | LEFT_CELL);

        writeRow(6, 0, TO_ADDRESS | LEFT_S | RIGHT_N6);
        writeRow(6, 1, TO_D_AND_SIGN | LEFT_CELL);

        writeRow(10, 0, TO_ADDRESS | LEFT_PC | RIGHT_N9);
        writeRow(10, 1, TO_ADDRESS | LEFT_CELL);
        writeRow(10, 2, TO_D_AND_SIGN | LEFT_CELL);
    }

    private void writeStoreRoutines() {
        writeRow(3, 0, TO_ADDRESS | LEFT_PC | RIGHT_N9);
        writeRow(3, 1, TO_CELL | LEFT_D);

        writeRow(7, 0, TO_ADDRESS | LEFT_S | RIGHT_N6);
        writeRow(7, 1, TO_CELL | LEFT_D);

        writeRow(11, 0, TO_ADDRESS | LEFT_PC | RIGHT_N9);
        writeRow(11, 1, TO_ADDRESS | LEFT_CELL);
        writeRow(11, 2, TO_CELL | LEFT_D);
    }

    private void writeControlRoutines() {
        writeRow(0, 0, WHEN_SIGN_ASKED | TO_PC | LEFT_PC | RIGHT_N9);

        writeRow(12, 0, TO_PC | LEFT_S);

        // The goal is kept in the address first, because register s may be
        // register 7 itself.
        writeRow(4, 0, WHEN_BIT_11_CLEAR | TO_ADDRESS | LEFT_S);
        writeRow(4, 1, WHEN_BIT_11_SET | TO_ADDRESS | LEFT_PC | RIGHT_N11);
        writeRow(4, 2, TO_LINK | LEFT_PC);
        writeRow(4, 3, TO_PC | LEFT_ADDRESS);

        writeRow(15, 0, TO_HALTED);

        writeRow(8, 0, TO_ILLEGAL);
        writeRow(13, 0, TO_ILLEGAL);
    }

    private void writeRow(int routine, int row, int micro) {
        microcode[routine * ROWS + row] = micro;
    }

    private void runRoutine(int routine) {
        for (int row = 0; row < ROWS; row++) {
            int micro = microcode[routine * ROWS + row];
            if (acts(micro)) {
                perform(micro);
            }
        }
    }

    private boolean acts(int micro) {
        switch (micro & WHEN) {
            case WHEN_BIT_5_CLEAR:
                return ((ir >> 5) & 1) == 0;
            case WHEN_BIT_5_SET:
                return ((ir >> 5) & 1) == 1;
            case WHEN_BIT_11_CLEAR:
                return ((ir >> 11) & 1) == 0;
            case WHEN_BIT_11_SET:
                return ((ir >> 11) & 1) == 1;
            case WHEN_SIGN_ASKED:
                // Bits 11, 10 and 9 ask for the signs -1, 0 and 1.
                return ((ir >> (10 - sign)) & 1) == 1;
            default:
                return true;
        }
    }

    private void perform(int micro) {
        int left = leftInput(micro);
        int right = rightInput(micro);
        int word = joined(micro, left, right);
        send(micro, word);
    }

    private int leftInput(int micro) {
        switch (micro & LEFT) {
            case LEFT_PC:
                return pc;
            case LEFT_ADDRESS:
                return address;
            case LEFT_CELL:
                return cells[address & 63];
            case LEFT_S:
                return registers[(ir >> 6) & 7];
            case LEFT_D:
                return registers[(ir >> 9) & 7];
            default:
                return 0;
        }
    }

    private int rightInput(int micro) {
        switch (micro & RIGHT) {
            case RIGHT_ONE:
                return 1;
            case RIGHT_T:
                return registers[ir & 7];
            case RIGHT_N5:
                return signedLowest(5);
            case RIGHT_N6:
                return signedLowest(6);
            case RIGHT_N9:
                return signedLowest(9);
            case RIGHT_N11:
                return signedLowest(11);
            default:
                return 0;
        }
    }

    private int signedLowest(int bits) {
        int size = 1 << bits;
        int number = ir & (size - 1);
        return number >= size / 2 ? number - size : number;
    }

    private static int joined(int micro, int left, int right) {
        switch (micro & FUNCTION) {
            case FUNCTION_AND:
                return left & right & LAST_WORD;
            case FUNCTION_NOT:
                return ~left & LAST_WORD;
            default:
                return (left + right) & LAST_WORD;
        }
    }

    private void send(int micro, int word) {
        switch (micro & TO) {
            case TO_PC:
                pc = word;
                break;
            case TO_IR:
                ir = word;
                break;
            case TO_ADDRESS:
                address = word;
                break;
            case TO_CELL:
                cells[address & 63] = word;
                break;
            case TO_LINK:
                registers[LINK] = word;
                break;
            case TO_D_AND_SIGN:
                registers[(ir >> 9) & 7] = word;
                sign = signOf(word);
                break;
            case TO_HALTED:
                status = HALTED;
                break;
            case TO_ILLEGAL:
                status = ILLEGAL;
                break;
            default:
                break;
        }
    }

    private static int signOf(int word) {
        if (word >= HIGHEST_BIT) {
            return -1;
        }
        return word == 0 ? 0 : 1;
    }

    private static boolean isCell(int number) {
        return number >= 0 && number < CELLS;
    }

    private static boolean isRegister(int number) {
        return number >= 0 && number < REGISTERS;
    }

    private static boolean isWord(int number) {
        return number >= 0 && number <= LAST_WORD;
    }
}
