/** What it is: "An object is used for at most 512 calls after it has been made"; the last of them answers as the first. */
public final class CallsTest {
    private static final int CALLS = 512;

    public static void main(String[] args) {
        theLastCallIsAPokeOrAPeek();
        theLastCallIsARegisters();
        theLastCallIsAStep();
        theLastCallIsAStart();
        theLastCallIsRefused();
        theGreatestCount();
        Due.end();
    }

    /** A new object after 510 calls. */
    private static MicroLc3 used() {
        MicroLc3 x = new MicroLc3();
        for (int call = 1; call <= CALLS - 2; call += 2) {
            x.poke(call & 31, Instructions.withNumber(1, 0, 0, 1));
            x.step(1);
        }
        return x;
    }

    private static void theLastCallIsAPokeOrAPeek() {
        MicroLc3 x = used();
        Due.is("call 511: poke(63, 65535)", x.poke(63, 65535), true);
        Due.is("call 512: peek(63)", x.peek(63), 65535);
        MicroLc3 y = used();
        y.peek(0);
        Due.is("call 512: poke(0, 0)", y.poke(0, 0), true);
    }

    private static void theLastCallIsARegisters() {
        MicroLc3 x = used();
        Due.is("call 511: setRegister(7, 65535)", x.setRegister(7, 65535), true);
        Due.is("call 512: register(7)", x.register(7), 65535);
        MicroLc3 y = used();
        y.register(0);
        Due.is("call 512: setRegister(0, 0)", y.setRegister(0, 0), true);
    }

    private static void theLastCallIsAStep() {
        MicroLc3 x = used();
        Due.is("call 511: count()", x.count(), 255);
        Due.is("call 512: step(100)", x.step(100), 100);
        MicroLc3 y = used();
        Due.is("call 511: step(101)", y.step(101), 100);
        Due.is("call 512: count()", y.count(), 355);
    }

    private static void theLastCallIsAStart() {
        MicroLc3 x = used();
        Due.is("call 511: start(65535)", x.start(65535), true);
        Due.is("call 512: place()", x.place(), 65535);
        MicroLc3 y = used();
        Due.is("call 511: status()", y.status(), MicroLc3.RUNNING);
        Due.is("call 512: start(0)", y.start(0), true);
    }

    private static void theLastCallIsRefused() {
        MicroLc3 x = used();
        Due.is("call 511: poke(64, 0)", x.poke(64, 0), false);
        Due.is("call 512: peek(64)", x.peek(64), MicroLc3.BAD);
        MicroLc3 y = used();
        Due.is("call 511: start(65536)", y.start(65536), false);
        Due.is("call 512: register(8)", y.register(8), MicroLc3.BAD);
    }

    /** 511 calls of step(100) make the greatest count that a call can be asked for. */
    private static void theGreatestCount() {
        MicroLc3 x = new MicroLc3();
        for (int call = 1; call < CALLS; call++) {
            Due.is("step(100), call " + call, x.step(100), 100);
        }
        Due.is("count() after 511 times step(100)", x.count(), 51100);
    }
}
