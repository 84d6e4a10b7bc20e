/**
 * A new object together with all that it is due to show. A test sets the scene, executes, and says
 * what is due to have changed; shows() then looks at everything, so that what was not said must
 * have stayed. A scene takes fewer than 200 of the 512 calls of its object.
 */
final class Scene {
    private final String name;
    private final MicroLc3 x = new MicroLc3();
    private final int[] due = new int[Shown.SIZE];

    Scene(String name) {
        this.name = name;
    }

    Scene cell(int cell, int word) {
        Due.is(name + ": poke(" + cell + ", " + word + ")", x.poke(cell, word), true);
        due[cell] = word;
        return this;
    }

    /** Every cell holds a word of its own, so that a wrong one is seen to be wrong. */
    Scene fullCells() {
        for (int cell = 0; cell < 64; cell++) {
            cell(cell, 40000 + cell);
        }
        return this;
    }

    Scene register(int r, int word) {
        Due.is(name + ": setRegister(" + r + ", " + word + ")", x.setRegister(r, word), true);
        due[Shown.REGISTER + r] = word;
        return this;
    }

    Scene place(int word) {
        Due.is(name + ": start(" + word + ")", x.start(word), true);
        due[Shown.PLACE] = word;
        due[Shown.STATUS] = MicroLc3.RUNNING;
        return this;
    }

    /** Makes the sign by an addition to register 0, which is 0 again afterwards; wants a new object. */
    Scene sign(int sign) {
        cell(0, Instructions.withNumber(1, 0, 0, sign));
        executesOne();
        dueSign(sign);
        cell(0, 0);
        register(0, 0);
        return place(0);
    }

    /** Puts the instruction where the place is. */
    Scene at(int place, int instruction) {
        place(place);
        return cell(place & 63, instruction);
    }

    Scene executes(int n, int executed) {
        Due.is(name + ": step(" + n + ")", x.step(n), executed);
        due[Shown.COUNT] += executed;
        return this;
    }

    Scene executesOne() {
        due[Shown.PLACE] = due[Shown.PLACE] == 65535 ? 0 : due[Shown.PLACE] + 1;
        return executes(1, 1);
    }

    Scene dueCell(int cell, int word) {
        due[cell] = word;
        return this;
    }

    Scene dueRegister(int r, int word) {
        due[Shown.REGISTER + r] = word;
        return this;
    }

    /** What an instruction marked * is due to do. */
    Scene dueResult(int d, int word) {
        dueRegister(d, word);
        return dueSign(word == 0 ? 0 : word < 32768 ? 1 : -1);
    }

    Scene duePlace(int word) {
        due[Shown.PLACE] = word;
        return this;
    }

    Scene dueSign(int sign) {
        due[Shown.SIGN] = sign;
        return this;
    }

    Scene dueStatus(int status) {
        due[Shown.STATUS] = status;
        return this;
    }

    /** The word that the cell is due to hold. */
    int wordOf(int cell) {
        return due[cell];
    }

    void shows() {
        Shown.same(name, Shown.by(x), due);
    }
}
