/** Compares answers with the ones that are due, and ends a test. */
final class Due {
    static final int[] WRONG_WORDS = {-1, 65536, -65536, 131071, Integer.MIN_VALUE, Integer.MAX_VALUE};
    static final int[] EDGE_WORDS = {0, 1, 32767, 32768, 65534, 65535};

    private static int wrong = 0;

    private Due() {
    }

    static void is(String call, long got, long want) {
        if (got != want) {
            wrong++;
            System.out.println(call + " answered " + got + ", due is " + want);
        }
    }

    static void is(String call, boolean got, boolean want) {
        is(call, got ? 1L : 0L, want ? 1L : 0L);
    }

    static void end() {
        System.out.println(wrong == 0 ? "all answers are as due" : wrong + " answers are not as due");
        if (wrong != 0) {
            System.exit(1);
        }
    }
}
