/** Promises 6, 7, 10 and 11: which instructions change the status, the step that does, the steps after it, and start. */
public final class StatusTest {
    private static final int[] ENDINGS = {15 << 12, 65535, 8 << 12, 36863, 13 << 12, 57343};
    private static final int[] STATUSES = {1, 1, 2, 2, 2, 2};
    private static final int[] NUMBERS = {Integer.MIN_VALUE, -1, 0, 1, 2, 99, 100, 101, Integer.MAX_VALUE};

    public static void main(String[] args) {
        theWordsThatEnd();
        everyWordByItsOpcode();
        aStepThatMeetsAnEndedObject();
        aStepOfNoneAtAnEnding();
        theOneThatChangesTheStatusCounts();
        theEndAmongTheLastOfAHundred();
        startAfterTheEnd();
        aRefusedStartAfterTheEnd();
        onlyStartRunsAgain();
        Due.end();
    }

    /** The rows of opcodes 15, 8 and 13: the least and the greatest word of each, and its neighbours. */
    private static void theWordsThatEnd() {
        int[][] cases = {{0, 0}, {32767, 0}, {32768, 2}, {36863, 2}, {36864, 0}, {53247, 0}, {53248, 2}, {57343, 2},
            {57344, 0}, {61439, 0}, {61440, 1}, {65535, 1}};
        for (int[] c : cases) {
            MicroLc3 x = new MicroLc3();
            x.poke(0, c[0]);
            Due.is("step(1) of " + c[0], x.step(1), 1);
            Due.is("status() after " + c[0], x.status(), c[1]);
        }
    }

    private static void everyWordByItsOpcode() {
        for (int word = 0; word < 65536; word++) {
            MicroLc3 x = new MicroLc3();
            x.poke(0, word);
            x.step(1);
            int opcode = word / 4096;
            int want = opcode == 15 ? 1 : opcode == 8 || opcode == 13 ? 2 : 0;
            Due.is("status() after " + word, x.status(), want);
        }
    }

    /** "as long as the status is RUNNING". */
    private static void aStepThatMeetsAnEndedObject() {
        for (int i = 0; i < ENDINGS.length; i++) {
            Scene scene = new Scene("ended by " + ENDINGS[i]).at(20, ENDINGS[i])
                .cell(21, Instructions.withNumber(1, 0, 0, 1))
                .executesOne().dueStatus(STATUSES[i]);
            for (int n : NUMBERS) {
                scene.executes(n, 0);
            }
            scene.shows();
        }
    }

    private static void aStepOfNoneAtAnEnding() {
        for (int ending : ENDINGS) {
            new Scene("not yet at " + ending).at(20, ending).executes(0, 0).executes(-1, 0)
                .executes(Integer.MIN_VALUE, 0).shows();
        }
    }

    /** "the one that changes the status counts", as the first, a middle and the last of those asked for. */
    private static void theOneThatChangesTheStatusCounts() {
        int[][] cases = {{1, 1}, {1, 2}, {1, 100}, {1, 101}, {1, Integer.MAX_VALUE}, {2, 2}, {2, 3}, {2, 100},
            {64, 64}, {64, 65}, {64, 100}};
        for (int i = 0; i < ENDINGS.length; i++) {
            for (int[] c : cases) {
                new Scene("ending " + ENDINGS[i] + " as number " + c[0]).cell(c[0] - 1, ENDINGS[i])
                    .executes(c[1], c[0]).duePlace(c[0]).dueStatus(STATUSES[i])
                    .executes(c[1], 0).shows();
            }
            new Scene("just before the ending " + ENDINGS[i]).cell(5, ENDINGS[i])
                .executes(5, 5).duePlace(5).shows();
        }
    }

    /**
     * "at most n of them (n clamped into 0..100)" against the end, which comes as instruction 99, 100
     * and 101: the program does nothing once or not at all, counts register 1 down, two instructions
     * each time, and ends.
     */
    private static void theEndAmongTheLastOfAHundred() {
        int[] asked = {100, 101, 200, Integer.MAX_VALUE};
        for (int n : asked) {
            for (int i = 0; i < ENDINGS.length; i++) {
                countdown(ENDINGS[i], 1, 49).executes(n, 99).duePlace(4)
                    .dueRegister(1, 0).dueStatus(STATUSES[i]).shows();
                countdown(ENDINGS[i], 0, 49).executes(n, 100).duePlace(4)
                    .dueRegister(1, 0).dueStatus(STATUSES[i]).shows();
                countdown(ENDINGS[i], 1, 50).executes(n, 100).duePlace(3)
                    .dueRegister(1, 0).shows();
                countdown(ENDINGS[i], 1, 50).executes(n, 100).executes(n, 1).duePlace(4)
                    .dueRegister(1, 0).dueStatus(STATUSES[i]).shows();
            }
        }
        countdown(ENDINGS[0], 0, 49).executes(99, 99).duePlace(3).dueRegister(1, 0).shows();
    }

    private static Scene countdown(int ending, int from, int times) {
        return new Scene("countdown of " + times + " from " + from + " to " + ending)
            .cell(1, Instructions.withNumber(1, 1, 1, -1))
            .cell(2, Instructions.near(0, 1, -2))
            .cell(3, ending)
            .register(1, times).place(from);
    }

    /** "Sets PC, and the status becomes RUNNING", after HALTED and after ILLEGAL; the count goes on. */
    private static void startAfterTheEnd() {
        int[] places = {0, 20, 21, 63, 64, 65535};
        for (int i = 0; i < ENDINGS.length; i++) {
            for (int place : places) {
                new Scene("start(" + place + ") after " + ENDINGS[i]).at(20, ENDINGS[i])
                    .executesOne().dueStatus(STATUSES[i])
                    .place(place).shows();
            }
            new Scene("on after " + ENDINGS[i]).at(20, ENDINGS[i])
                .executesOne().dueStatus(STATUSES[i])
                .place(21).executes(3, 3).duePlace(24).shows();
            new Scene("the same end again, " + ENDINGS[i]).at(20, ENDINGS[i])
                .executesOne().dueStatus(STATUSES[i])
                .place(20).executes(100, 1).duePlace(21).dueStatus(STATUSES[i]).shows();
        }
        new Scene("halted, then illegal").cell(0, 15 << 12).cell(1, 8 << 12)
            .executesOne().place(1).executesOne().dueStatus(MicroLc3.ILLEGAL).shows();
        new Scene("illegal, then halted").cell(0, 13 << 12).cell(1, 15 << 12)
            .executesOne().place(1).executesOne().dueStatus(MicroLc3.HALTED).shows();
    }

    private static void aRefusedStartAfterTheEnd() {
        for (int i = 0; i < ENDINGS.length; i++) {
            for (int word : Due.WRONG_WORDS) {
                MicroLc3 x = new MicroLc3();
                x.poke(0, ENDINGS[i]);
                x.step(1);
                Due.is("start(" + word + ") after " + ENDINGS[i], x.start(word), false);
                Due.is("status() after a refused start", x.status(), STATUSES[i]);
                Due.is("place() after a refused start", x.place(), 1);
                Due.is("step(1) after a refused start", x.step(1), 0);
            }
        }
    }

    private static void onlyStartRunsAgain() {
        for (int i = 0; i < ENDINGS.length; i++) {
            new Scene("no start after " + ENDINGS[i]).at(20, ENDINGS[i])
                .executesOne().dueStatus(STATUSES[i])
                .cell(20, 0).cell(21, 0).register(0, 1)
                .executes(100, 0).shows();
        }
    }
}
