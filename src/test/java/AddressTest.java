/** Promise 14, sections 1 and 3: traps, tables of pages, interrupts and waiting. */
public final class AddressTest {
    private static final int TABLE = 0x2000;
    private static final int SECOND = 0x3000;
    private static final int CODE = 0x100;
    private static final int LOAD = Code.byNumber(3, 7, 2, 5, 0);
    private static final int STORE = Code.storing(2, 5, 6, 0);
    private static final int SUM = 1 << 18;
    private static final int MXR = 1 << 19;
    private static final Check check = new Check("AddressTest");

    public static void main(String[] args) {
        check.look(args);
        trapsFromModes();
        plainWalks();
        bigPages();
        rightsOfLeaves();
        faultyTables();
        walksIntoEnclaves();
        fetches();
        instructionsOfU();
        interruptOrder();
        interruptsByMode();
        waiting();
        check.end();
    }

    /** Tables whose page 0 (the code's) is mapped as it is; page 4 has the given entry. */
    private static EnclaveHouse mapped(int entry, int status, int word) {
        EnclaveHouse house = new EnclaveHouse(1);
        house.poke(CODE, word, 0, 0, 0, 0);
        house.poke(TABLE, SECOND >> 2 | 1, 0, 0, 0, 0);
        house.poke(SECOND, 0xcf, 0, 0, 0, entry);
        house.poke(0x5000, 1234, 0, 0, 0, 0);
        house.setControl(0, 0x105, 0x800);
        house.setControl(0, 0x180, 1 << 31 | TABLE >> 12);
        house.setControl(0, 0x100, status);
        house.setRegister(0, 5, 0x4000);
        house.setRegister(0, 6, 77);
        house.place(0, CODE, 1);
        return house;
    }

    private static int leaf(int place, int bits) {
        return place >> 2 | bits;
    }

    private static void loads(String what, int entry, int status, boolean may) {
        EnclaveHouse house = mapped(entry, status, LOAD);
        house.run(1);
        check.is(what + ": load", may ? 1234 : 0, house.register(0, 7));
        check.is(what + ": CAUSE", may ? 0 : 13, house.control(0, 0x142));
        check.is(what + ": TVAL", may ? 0 : 0x4000, house.control(0, 0x143));
    }

    private static void stores(String what, int entry, int status, boolean may) {
        EnclaveHouse house = mapped(entry, status, STORE);
        house.run(1);
        check.is(what + ": store", may ? 77 : 1234, house.word(0x5000));
        check.is(what + ": CAUSE", may ? 0 : 15, house.control(0, 0x142));
    }

    private static void trapsFromModes() {
        check.terms(3, 14, "A TRAP goes to S: EPC is the PC, CAUSE the number (of an interrupt bit 31, too),");
        check.terms(3, 14, "PIE becomes IE, IE 0, PP 1 if it came from S, else 0; the MODE is S, the PC TVEC.");
        EnclaveHouse house = new EnclaveHouse(1);
        house.setControl(0, 0x105, 0x800);
        house.setControl(0, 0x100, 2 | SUM);
        house.place(0, CODE, 1);
        house.run(1);
        check.is("EPC", CODE, house.control(0, 0x141));
        check.is("CAUSE", 2, house.control(0, 0x142));
        check.is("STATUS from S", 32 | 256 | SUM, house.control(0, 0x100));
        check.is("PC", 0x800, house.count(14));
        house.poke(CODE, Code.CALL, 0, 0, 0, 0);
        house.setControl(0, 0x100, 32 | 256);
        house.place(0, CODE, 0);
        house.run(1);
        check.is("a CALL from U", 8, house.control(0, 0x142));
        check.is("its TVAL", 0, house.control(0, 0x143));
        check.is("STATUS from U", 0, house.control(0, 0x100));
        check.is("the mode is S", 1, house.count(12));
    }

    private static void plainWalks() {
        check.terms(3, 14, "With bit 31 of ATP clear an address is its PLACE; else a WALK:");
        check.terms(3, 14, "bits 11 .. 0 from the address.");
        loads("R W", leaf(0x5000, 0xc7), 0, true);
        stores("R W", leaf(0x5000, 0xc7), 0, true);
        EnclaveHouse house = mapped(leaf(0x5000, 0xc7), 0, LOAD);
        house.poke(0x5ffc, 55, 0, 0, 0, 0);
        house.setRegister(0, 5, 0x4ffc);
        house.run(1);
        check.is("bits 11 .. 0 are the address's", 55, house.register(0, 7));
        house = mapped(leaf(0x5000, 0xc7), 0, Code.byNumber(3, 7, 4, 5, 1));
        house.run(1);
        check.is("a byte at an odd address", 1234 >> 8, house.register(0, 7));
        house = mapped(leaf(0, 0xc7), 0, LOAD);
        house.poke(0, 99, 0, 0, 0, 0);
        house.run(1);
        check.is("place 0", 99, house.register(0, 7));
        house = mapped(leaf(0x5000, 0xc7), 0, Code.byNumber(3, 7, 2, 5, 2));
        house.run(1);
        check.is("alignment comes ahead of the walk", 4, house.control(0, 0x142));
        house = mapped(0, 0, Code.byNumber(3, 7, 1, 5, 1));
        house.run(1);
        check.is("alignment comes ahead of a page fault", 4, house.control(0, 0x142));
        house = mapped(leaf(0x5000, 0xc7), 0, LOAD);
        house.setControl(0, 0x180, TABLE >> 12);
        house.poke(0x4000, 4321, 0, 0, 0, 0);
        house.run(1);
        check.is("without bit 31 of ATP", 4321, house.register(0, 7));
    }

    private static void bigPages() {
        check.terms(3, 14, "a LEAF in the first table has one of bits 10 .. 19 set;");
        check.terms(3, 14, "(of a LEAF in the first table bits 21 .. 12 from the address),");
        EnclaveHouse house = mapped(0, 0, LOAD);
        house.poke(TABLE + 4, 0xc7, 0, 0, 0, 0);
        house.setRegister(0, 5, 0x405000);
        house.run(1);
        check.is("a leaf in the first table", 1234, house.register(0, 7));
        for (int bit : new int[] {10, 19}) {
            house = mapped(0, 0, LOAD);
            house.poke(TABLE + 4, 0xc7 | 1 << bit, 0, 0, 0, 0);
            house.setRegister(0, 5, 0x405000);
            house.run(1);
            check.is("a leaf in the first table with bit " + bit, 13, house.control(0, 0x142));
        }
        for (int bit : new int[] {20, 31}) {
            house = mapped(0, 0, LOAD);
            house.poke(TABLE + 4, 0xc7 | 1 << bit, 0, 0, 0, 0);
            house.setRegister(0, 5, 0x405000);
            house.run(1);
            check.is("a place that is not there, bit " + bit, 5, house.control(0, 0x142));
            check.is("its TVAL", 0x405000, house.control(0, 0x143));
        }
    }

    private static void rightsOfLeaves() {
        check.terms(3, 14, "a load R (or X with MXR), a store W; bit 6 (A) must be set, for stores bit 7 (D); U "
            + "wants bit 4 (U) set, S clear, but for loads and stores with SUM either way.");
        loads("no R", leaf(0x5000, 0xc9), 0, false);
        loads("X with MXR", leaf(0x5000, 0xc9), MXR, true);
        loads("no A", leaf(0x5000, 0x87), 0, false);
        loads("no D", leaf(0x5000, 0x47), 0, true);
        loads("of U", leaf(0x5000, 0xd7), 0, false);
        loads("of U with SUM", leaf(0x5000, 0xd7), SUM, true);
        loads("of S with SUM", leaf(0x5000, 0xc7), SUM, true);
        stores("no W", leaf(0x5000, 0xc3), 0, false);
        stores("X with MXR", leaf(0x5000, 0xc9), MXR, false);
        stores("no A", leaf(0x5000, 0x87), 0, false);
        stores("no D", leaf(0x5000, 0x47), 0, false);
        stores("of U", leaf(0x5000, 0xd7), 0, false);
        stores("of U with SUM", leaf(0x5000, 0xd7), SUM, true);
        EnclaveHouse house = mapped(leaf(0x5000, 0xc3), 0, Code.inMemory(0, 7, 5, 6));
        house.run(1);
        check.is("op 47 is a store", 15, house.control(0, 0x142));
        house = mapped(leaf(0x5000, 0xc3), 0, Code.inMemory(2, 7, 5, 0));
        house.run(1);
        check.is("op 47 with 2 is a load", 1234, house.register(0, 7));
        house = mapped(leaf(0x5000, 0xc3), 0, Code.inMemory(3, 7, 5, 6));
        house.run(1);
        check.is("op 47 with 3 is a store", 15, house.control(0, 0x142));
    }

    private static void faultyTables() {
        check.terms(3, 14, "an entry has bit 0 (V) clear, or W without R; the second one is no LEAF;");
        check.terms(3, 14, "Each entry must be LET THROUGH (4) as a load of a word,");
        loads("no V", leaf(0x5000, 0xc6), 0, false);
        loads("W without R", leaf(0x5000, 0xcd), MXR, false);
        loads("the second one is no leaf", leaf(0x5000, 0xc1), 0, false);
        EnclaveHouse house = mapped(0, 0, LOAD);
        house.poke(TABLE + 4, 5, 0, 0, 0, 0);
        house.setRegister(0, 5, 0x400000);
        house.run(1);
        check.is("the first one has W without R", 13, house.control(0, 0x142));
        house.poke(TABLE + 4, 0x20000 >> 2 | 1, 0, 0, 0, 0);
        house.place(0, CODE, 1);
        house.run(1);
        check.is("the second table is not there", 5, house.control(0, 0x142));
        house.poke(CODE, STORE, 0, 0, 0, 0);
        house.place(0, CODE, 1);
        house.run(1);
        check.is("the same for a store", 7, house.control(0, 0x142));
        house.setControl(0, 0x180, -1);
        house.place(0, CODE, 1);
        house.run(1);
        check.is("the first table is not there, fetching", 1, house.control(0, 0x142));
        check.is("its TVAL", CODE, house.control(0, 0x143));
    }

    private static void walksIntoEnclaves() {
        check.terms(3, 14, "Each entry must be LET THROUGH (4) as a load of a word, and at last the access itself "
            + "at its PLACE: else exception 1 (fetch), 5 (load), 7 (store), by what was asked for.");
        EnclaveHouse house = mapped(leaf(0x8000, 0xc7), 0, LOAD);
        house.call(0, 1, 0x8000, 4096, 0, 0);
        house.run(1);
        check.is("a page of an enclave", 5, house.control(0, 0x142));
        house.poke(CODE, STORE, 0, 0, 0, 0);
        house.place(0, CODE, 1);
        house.run(1);
        check.is("a store to it", 7, house.control(0, 0x142));
        house.poke(TABLE + 4, 0x8000 >> 2 | 1, 0, 0, 0, 0);
        house.setRegister(0, 5, 0x400000);
        house.place(0, CODE, 1);
        house.run(1);
        check.is("a table in an enclave", 7, house.control(0, 0x142));
        house.setControl(0, 0x180, 0);
        house.poke(CODE, LOAD, 0, 0, 0, 0);
        house.setRegister(0, 5, 0x8ffc);
        house.place(0, CODE, 1);
        house.run(1);
        check.is("an enclave without tables", 5, house.control(0, 0x142));
        house.place(0, 0x8000, 1);
        house.run(1);
        check.is("a fetch from it", 1, house.control(0, 0x142));
        check.is("its TVAL", 0x8000, house.control(0, 0x143));
    }

    private static void fetchesAt(int address, int mode, int status, int due, int value) {
        EnclaveHouse house = mapped(leaf(0x5000, 0xdb), status, 0);
        house.poke(0x5000, Code.NOTHING, 0, 0, 0, 0);
        house.place(0, address, mode);
        house.run(1);
        check.is("fetch at " + address + " in " + mode, due,
            due == 0 ? house.count(14) - address - 4 : house.control(0, 0x142));
        check.is("its TVAL", value, house.control(0, 0x143));
    }

    private static void fetches() {
        check.terms(3, 14, "PAGE FAULT, 12 (fetch), 13 (load), 15 (store):");
        check.terms(3, 14, "a fetch wants X,");
        check.terms(3, 14, "else exception 1 (fetch),");
        fetchesAt(0x4000, 0, 0, 0, 0);
        fetchesAt(0x4000, 1, 0, 12, 0x4000);
        fetchesAt(0x4000, 1, SUM, 12, 0x4000);
        fetchesAt(CODE, 0, SUM, 12, CODE);
        fetchesAt(0x1000, 1, 0, 12, 0x1000);
        EnclaveHouse house = new EnclaveHouse(1);
        house.setControl(0, 0x105, 0x800);
        house.place(0, 131072, 1);
        house.run(1);
        check.is("a fetch behind memory", 1, house.control(0, 0x142));
        house = mapped(leaf(0x5000, 0xd7), MXR, 0);
        house.place(0, 0x4000, 0);
        house.run(1);
        check.is("a fetch without X", 12, house.control(0, 0x142));
    }

    private static void instructionsOfU() {
        check.terms(3, 14, "in U and with a THREAD all but 0xc01.");
        check.terms(2, 14, "(258, 261 and this are ILLEGAL elsewhere.)");
        int[] words = {
            Code.LEAVE_TRAP, Code.WAIT, Code.byRegister(115, 0, 0, 0, 0, 9), Code.control(7, 2, 0, 0x100),
            Code.control(7, 2, 0, 0xf14), Code.control(7, 1, 0, 0xc01), Code.control(7, 2, 5, 0xc01)
        };
        for (int word : words) {
            EnclaveHouse house = new EnclaveHouse(1);
            house.poke(CODE, word, 0, 0, 0, 0);
            house.place(0, CODE, 0);
            house.run(1);
            check.is("illegal in U: " + Integer.toHexString(word), 2, house.control(0, 0x142));
            check.is("its TVAL", word, house.control(0, 0x143));
        }
        EnclaveHouse house = new EnclaveHouse(1);
        house.poke(CODE, Code.NOTHING, Code.control(7, 2, 0, 0xc01), Code.BREAK, 0, 0);
        house.place(0, CODE, 0);
        house.run(2);
        check.is("TIME in U", 1, house.register(0, 7));
        house.run(1);
        check.is("break in U", 3, house.control(0, 0x142));
    }

    private static void interruptOrder() {
        check.terms(1, 14, "INTERRUPTS of a hart: 9 (from outside), 1 (a signal), 5 (its timer), the first in this "
            + "order.");
        EnclaveHouse house = new EnclaveHouse(1);
        house.setControl(0, 0x105, 0x800);
        house.poke(0x800, Code.NOTHING, Code.NOTHING, Code.NOTHING, Code.NOTHING, Code.NOTHING);
        house.setControl(0, 0x104, 546);
        house.setControl(0, 0x144, 2);
        house.setControl(0, 0x14d, 0);
        house.line(true);
        int[] due = {9, 1, 5};
        for (int i = 0; i < 3; i++) {
            house.setControl(0, 0x100, 2);
            house.place(0, 0x200 + 4 * i, 1);
            house.run(1);
            check.is("CAUSE", 1 << 31 | due[i], house.control(0, 0x142));
            check.is("EPC", 0x200 + 4 * i, house.control(0, 0x141));
            check.is("TVAL", 0, house.control(0, 0x143));
            check.is("PC", 0x800, house.count(14));
            check.is("STATUS", 32 | 256, house.control(0, 0x100));
            house.setControl(0, 0x104, i == 0 ? 34 : 32);
        }
    }

    private static void interruptsByMode() {
        check.terms(1, 14, "DUE is one that is PENDING and ENABLED: with a THREAD and in U always, in S if IE of "
            + "STATUS is 1.");
        EnclaveHouse house = new EnclaveHouse(1);
        house.poke(0x200, Code.NOTHING, Code.NOTHING, Code.NOTHING, Code.NOTHING, Code.NOTHING);
        house.setControl(0, 0x105, 0x800);
        house.setControl(0, 0x104, 32);
        house.setControl(0, 0x14d, 2);
        house.place(0, 0x200, 1);
        house.run(4);
        check.is("in S without IE it goes on", 0x210, house.count(14));
        house.place(0, 0x200, 0);
        house.run(1);
        check.is("in U always", 1 << 31 | 5, house.control(0, 0x142));
        check.is("PP and PIE", 0, house.control(0, 0x100));
        house.setControl(0, 0x14d, -1);
        house.setControl(0, 0x100, 2);
        house.setControl(0, 0x104, 2);
        house.place(0, 0x200, 1);
        house.call(1, 13, 0, 0, 0, 0);
        check.is("a signal", 2, house.control(0, 0x144));
        check.is("not to the other one", 0, house.control(1, 0x144));
        house.run(1);
        check.is("in S with IE", 1 << 31 | 1, house.control(0, 0x142));
        check.is("the signal stays", 2, house.control(0, 0x144));
        house.setControl(0, 0x104, 32);
        house.setControl(0, 0x100, 2);
        house.place(0, 0x200, 1);
        house.run(1);
        check.is("not enabled", 0x204, house.count(14));
    }

    private static void waiting() {
        check.terms(1, 14, "1. If it WAITS, and none of its interrupts is PENDING and ENABLED, that is all; else it "
            + "waits no more.");
        EnclaveHouse house = new EnclaveHouse(1);
        house.poke(CODE, Code.WAIT, Code.NOTHING, Code.NOTHING, Code.NOTHING, Code.NOTHING);
        house.place(0, CODE, 1);
        house.setControl(0, 0x104, 32);
        house.setControl(0, 0x14d, 10);
        house.run(10);
        check.is("it waits", 1, house.count(10));
        check.is("behind", CODE + 4, house.count(14));
        house.run(1);
        check.is("it waits no more", 0, house.count(10));
        check.is("and goes on at once without IE", CODE + 8, house.count(14));
        house.place(0, CODE, 1);
        house.setControl(0, 0x14d, 14);
        house.setControl(0, 0x104, 0);
        house.run(20);
        check.is("what is not enabled wakes nobody", 1, house.count(10));
        house.setControl(0, 0x104, 512);
        house.setControl(0, 0x100, 2);
        house.type(1);
        house.run(1);
        check.is("a key wakes it, and is an interrupt", 1 << 31 | 9, house.control(0, 0x142));
        check.is("EPC", CODE + 4, house.control(0, 0x141));
    }
}
