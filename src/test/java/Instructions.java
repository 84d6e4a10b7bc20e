/** Puts instruction words together from their fields. */
final class Instructions {
    static final int HALT = 15 << 12;

    private Instructions() {
    }

    /** Opcodes 1 and 5 with bit 5 clear. */
    static int withRegister(int opcode, int d, int s, int t) {
        return opcode << 12 | d << 9 | s << 6 | t;
    }

    /** Opcodes 1 and 5 with bit 5 set. */
    static int withNumber(int opcode, int d, int s, int n5) {
        return opcode << 12 | d << 9 | s << 6 | 32 | n5 & 31;
    }

    /** Opcodes 2, 3, 10, 11 and 14, and 0 with the asked signs in place of d. */
    static int near(int opcode, int d, int n9) {
        return opcode << 12 | d << 9 | n9 & 511;
    }

    /** Opcodes 6 and 7, and with n6 = 0 also 9, 12 and 4 with bit 11 clear. */
    static int based(int opcode, int d, int s, int n6) {
        return opcode << 12 | d << 9 | s << 6 | n6 & 63;
    }

    /** Opcode 4 with bit 11 set. */
    static int call(int n11) {
        return 4 << 12 | 1 << 11 | n11 & 2047;
    }
}
