/** Promise 1. */
public final class NewObjectTest {
    public static void main(String[] args) {
        everythingIsZero();
        aNewObjectRuns();
        objectsAreApart();
        Due.end();
    }

    /** "All words 0, the sign 0, the status RUNNING", which is 0 too, as is the count. */
    private static void everythingIsZero() {
        Shown.same("new", Shown.by(new MicroLc3()), new int[Shown.SIZE]);
        Due.is("new: status()", new MicroLc3().status(), MicroLc3.RUNNING);
    }

    /** Without a start: a cell of 0 is a branch that asks for no sign. */
    private static void aNewObjectRuns() {
        new Scene("new: step(1)").executesOne().duePlace(1).shows();
    }

    private static void objectsAreApart() {
        MicroLc3 x = new MicroLc3();
        MicroLc3 y = new MicroLc3();
        for (int cell = 2; cell < 64; cell++) {
            x.poke(cell, 65535);
        }
        for (int r = 0; r < 8; r++) {
            x.setRegister(r, 65535);
        }
        x.poke(0, Instructions.withNumber(1, 3, 3, -1));
        x.poke(1, Instructions.HALT);
        x.step(2);
        Shown.same("an object made before another one's run", Shown.by(y), new int[Shown.SIZE]);
        Shown.same("an object made after another one's run", Shown.by(new MicroLc3()), new int[Shown.SIZE]);
    }
}
