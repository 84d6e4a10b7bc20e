/** Terms: "an ADDRESS, which is a word, names the cell (address & 63)", wherever an address is used. */
public final class AddressesTest {
    private static final int[] ADDRESSES = {0, 1, 62, 63, 64, 65, 127, 128, 129, 255, 256, 4095, 4096,
        32767, 32768, 65471, 65472, 65534, 65535};

    public static void main(String[] args) {
        for (int address : ADDRESSES) {
            theFetch(address);
            nearLoad(address);
            nearStore(address);
            basedLoad(address);
            basedStore(address);
            loadByACell(address);
            storeByACell(address);
            aPlaceStaysWhole(address);
            aWordStaysWhole(address);
        }
        placesThatNameOneCell();
        Due.end();
    }

    private static int cellOf(int address) {
        return address % 64;
    }

    private static int before(int address, int distance) {
        return (address - distance) & 65535;
    }

    /** "IR becomes the cell that PC names". */
    private static void theFetch(int address) {
        new Scene("fetch at " + address).fullCells()
            .place(address).cell(cellOf(address), Instructions.withNumber(1, 3, 3, 5))
            .executesOne().dueResult(3, 5).shows();
    }

    private static void nearLoad(int address) {
        new Scene("opcode 2 of " + address).fullCells()
            .at(before(address, 11), Instructions.near(2, 3, 10))
            .executesOne().dueResult(3, 40000 + cellOf(address)).shows();
    }

    private static void nearStore(int address) {
        new Scene("opcode 3 to " + address).fullCells()
            .at(before(address, 11), Instructions.near(3, 3, 10)).register(3, 1234)
            .executesOne().dueCell(cellOf(address), 1234).shows();
    }

    private static void basedLoad(int address) {
        new Scene("opcode 6 of " + address).fullCells()
            .at(20, Instructions.based(6, 3, 4, 10)).register(4, before(address, 10))
            .executesOne().dueResult(3, 40000 + cellOf(address)).shows();
    }

    private static void basedStore(int address) {
        new Scene("opcode 7 to " + address).fullCells()
            .at(20, Instructions.based(7, 3, 4, 10)).register(4, before(address, 10)).register(3, 1234)
            .executesOne().dueCell(cellOf(address), 1234).shows();
    }

    /** Both the address that PC + n9 is and the one that its cell holds are as given. */
    private static void loadByACell(int address) {
        new Scene("opcode 10 by a cell that holds " + address).fullCells()
            .at(20, Instructions.near(10, 3, 9)).cell(30, address)
            .executesOne().dueResult(3, 40000 + cellOf(address)).shows();
        new Scene("opcode 10 by the cell of " + address).fullCells()
            .at(before(address, 11), Instructions.near(10, 3, 10)).cell(cellOf(address), before(address, 1))
            .executesOne().dueResult(3, 40000 + cellOf(before(address, 1))).shows();
    }

    private static void storeByACell(int address) {
        new Scene("opcode 11 by a cell that holds " + address).fullCells()
            .at(20, Instructions.near(11, 3, 9)).cell(30, address).register(3, 1234)
            .executesOne().dueCell(cellOf(address), 1234).shows();
        new Scene("opcode 11 by the cell of " + address).fullCells()
            .at(before(address, 11), Instructions.near(11, 3, 10)).cell(cellOf(address), before(address, 1))
            .register(3, 1234)
            .executesOne().dueCell(cellOf(before(address, 1)), 1234).shows();
    }

    /** Only the naming of a cell takes the address & 63: PC holds the whole word. */
    private static void aPlaceStaysWhole(int address) {
        new Scene("opcode 12 to " + address).at(20, Instructions.based(12, 0, 4, 0)).register(4, address)
            .executesOne().duePlace(address).shows();
        new Scene("opcode 4 to the word " + address).at(20, Instructions.based(4, 0, 4, 0)).register(4, address)
            .executesOne().duePlace(address).dueRegister(7, 21).shows();
        new Scene("opcode 4 to the place " + address).at(before(address, 101), Instructions.call(100))
            .executesOne().duePlace(address).dueRegister(7, before(address, 100)).shows();
        new Scene("opcode 0 to " + address).at(before(address, 11), Instructions.near(0, 2, 10))
            .executesOne().duePlace(address).shows();
    }

    private static void aWordStaysWhole(int address) {
        new Scene("opcode 14 of " + address).at(before(address, 11), Instructions.near(14, 3, 10))
            .executesOne().dueResult(3, address).shows();
        new Scene("opcode 2 of a cell with " + address).at(20, Instructions.near(2, 3, 9)).cell(30, address)
            .executesOne().dueResult(3, address).shows();
        new Scene("opcode 3 of a register with " + address).at(20, Instructions.near(3, 3, 9)).register(3, address)
            .executesOne().dueCell(30, address).shows();
    }

    private static void placesThatNameOneCell() {
        MicroLc3 x = new MicroLc3();
        x.poke(0, Instructions.withNumber(1, 3, 3, 1));
        int[] places = {0, 64, 128, 32768, 65472};
        for (int i = 0; i < places.length; i++) {
            x.start(places[i]);
            x.step(1);
            Due.is("register(3) after cell 0 at place " + places[i], x.register(3), i + 1);
            Due.is("place() after place " + places[i], x.place(), places[i] + 1);
        }
        x.start(0);
        Due.is("step(65), over cell 0 twice", x.step(65), 65);
        Due.is("register(3) after going round the cells", x.register(3), places.length + 2);
    }
}
