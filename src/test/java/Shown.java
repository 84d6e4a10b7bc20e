/** All that an object shows, read by 76 calls that change nothing. */
final class Shown {
    static final int REGISTER = 64;
    static final int PLACE = 72;
    static final int SIGN = 73;
    static final int STATUS = 74;
    static final int COUNT = 75;
    static final int SIZE = 76;

    private Shown() {
    }

    static int[] by(MicroLc3 x) {
        int[] shown = new int[SIZE];
        for (int cell = 0; cell < 64; cell++) {
            shown[cell] = x.peek(cell);
        }
        for (int r = 0; r < 8; r++) {
            shown[REGISTER + r] = x.register(r);
        }
        shown[PLACE] = x.place();
        shown[SIGN] = x.sign();
        shown[STATUS] = x.status();
        shown[COUNT] = x.count();
        return shown;
    }

    static void same(String when, int[] got, int[] want) {
        for (int i = 0; i < SIZE; i++) {
            if (got[i] != want[i]) {
                Due.is(when + ": " + call(i), got[i], want[i]);
            }
        }
    }

    private static String call(int i) {
        String[] last = {"place()", "sign()", "status()", "count()"};
        if (i < REGISTER) {
            return "peek(" + i + ")";
        }
        return i < PLACE ? "register(" + (i - REGISTER) + ")" : last[i - PLACE];
    }
}
