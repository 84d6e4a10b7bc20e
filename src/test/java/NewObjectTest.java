/** Promise 1. */
public final class NewObjectTest {
    public static void main(String[] args) {
        everythingIsZero();
        objectsAreApart();
        Due.end();
    }

    private static void everythingIsZero() {
        MicroLc3 x = new MicroLc3();
        for (int cell = 0; cell < 64; cell++) {
            Due.is("new: peek(" + cell + ")", x.peek(cell), 0);
        }
        for (int r = 0; r < 8; r++) {
            Due.is("new: register(" + r + ")", x.register(r), 0);
        }
        Due.is("new: place()", x.place(), 0);
        Due.is("new: sign()", x.sign(), 0);
        Due.is("new: status()", x.status(), MicroLc3.RUNNING);
        Due.is("new: count()", x.count(), 0);
        Due.is("new: step(1)", x.step(1), 1);
        Due.is("new: place() after a step", x.place(), 1);
    }

    private static void objectsAreApart() {
        MicroLc3 x = new MicroLc3();
        MicroLc3 y = new MicroLc3();
        x.poke(0, Instructions.withNumber(1, 3, 3, -1));
        x.poke(1, Instructions.HALT);
        x.step(2);
        Due.is("other object: peek(0)", y.peek(0), 0);
        Due.is("other object: register(3)", y.register(3), 0);
        Due.is("other object: place()", y.place(), 0);
        Due.is("other object: sign()", y.sign(), 0);
        Due.is("other object: status()", y.status(), MicroLc3.RUNNING);
        Due.is("other object: count()", y.count(), 0);
    }
}
