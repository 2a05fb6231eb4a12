/** The document's Terms, section 3: control registers, traps and addresses. */
final class ControlEdges {
    private static final int MIN = Integer.MIN_VALUE;
    private static final int MAX = Integer.MAX_VALUE;
    private static final int[] KEPT = {0x100, 0x104, 0x105, 0x140, 0x141, 0x142, 0x143, 0x144, 0x14d, 0x180};
    private static final int LOAD = Code.byNumber(3, 7, 2, 5, 0);
    private static final int STORE = Code.storing(2, 5, 6, 0);
    private static final int SUM = 1 << 18;
    private static final int MXR = 1 << 19;
    /** Where tests of pages load, store and fetch: page 4 is the place 0x5000. */
    private static final int ADDRESS = 0x4000;
    private static final int PLACE = 0x5000;
    private static final String[] ACCESSES = {"fetch", "load", "store"};
    private static final int[] PAGE_FAULTS = {12, 13, 15};
    private static final int[] DENIALS = {1, 5, 7};

    private final Edges edges;

    private ControlEdges(Edges itsEdges) {
        edges = itsEdges;
    }

    static void all(Edges edges) {
        ControlEdges of = new ControlEdges(edges);
        of.atFirst();
        of.masks();
        of.timer();
        of.pendingFromOutside();
        of.timeAndNumber();
        of.writesOfPending();
        of.illegalNumbers();
        of.illegalByMode();
        of.traps();
        of.valuesOfTraps();
        of.statusOfTraps();
        of.alignment();
        of.placeWithoutTables();
        of.tables();
        of.farTables();
        of.faultyEntries();
        of.bigPages();
        of.rights();
        of.dirty();
        of.userPages();
        of.placesOfLeaves();
        of.letThrough();
        of.withAThread();
    }

    private void atFirst() {
        edges.terms(3, 12, "3 THE SYSTEM'S CONTROL REGISTERS, of each hart, all 0 at first but COMPARE: ");
        EnclaveHouse house = new EnclaveHouse(1);
        for (int hart = 0; hart < 2; hart++) {
            for (int number : KEPT) {
                edges.is("hart " + hart + ", " + number, number == 0x14d ? -1 : 0, house.control(hart, number));
            }
        }
        edges.are("TIME", "0 0", house.control(0, 0xc01), house.control(1, 0xc01));
    }

    private void masks() {
        edges.terms(3, 11, "0x100 STATUS (bits 1 IE, 5 PIE, 8 PP, 18 SUM, 19 MXR), 0x104 ENABLED (bits 1, 5, 9), "
            + "0x105 TVEC (all but bits 0, 1), 0x140 SCRATCH, 0x141 EPC (all but bits 0, 1), 0x142 CAUSE, 0x143 "
            + "TVAL, 0x144 PENDING (bit 1 as written or signalled;");
        int[] masks = {786722, 546, -4, -1, -4, -1, -1, 2, -1, 0x803fffff};
        for (int hart = 0; hart < 2; hart++) {
            EnclaveHouse house = new EnclaveHouse(1);
            for (int i = 0; i < KEPT.length - 2; i++) {
                for (int number : new int[] {-1, 0, 1, 2, 3, MIN, MAX}) {
                    edges.is("written", 0, house.setControl(hart, KEPT[i], number));
                    edges.is(KEPT[i] + " of " + number, number & masks[i], house.control(hart, KEPT[i]));
                }
                edges.is("the other hart's " + KEPT[i], 0, house.control(1 - hart, KEPT[i]));
            }
        }
        EnclaveHouse house = new EnclaveHouse(1);
        edges.are("signalled", "0 2 0", house.call(0, 13, 1, 0, 0, 0), house.control(1, 0x144),
            house.control(0, 0x144));
        house.setControl(1, 0x144, 0);
        edges.is("written away", 0, house.control(1, 0x144));
        edges.terms(3, 11, "0x14d COMPARE (all bits 1 at first), 0x180 ATP (bits 31 and 21 .. 0), ");
        house = new EnclaveHouse(1);
        for (int i = 8; i < 10; i++) {
            for (int number : new int[] {-1, 1, MIN, MAX, 1 << 21, 1 << 22, 1 << 30}) {
                house.setControl(0, KEPT[i], number);
                edges.is(KEPT[i] + " of " + number, number & masks[i], house.control(0, KEPT[i]));
            }
            edges.is("the other hart's", i == 8 ? -1 : 0, house.control(1, KEPT[i]));
        }
    }

    private void timer() {
        edges.terms(3, 12, "5: TIME is not below COMPARE, U;");
        int[][] given = {{0, 0, 32}, {0, 1, 0}, {1, 1, 32}, {1, 2, 0}, {2, 1, 32}, {5, -1, 0}, {5, MIN, 0},
            {5, MAX, 0}, {5, 0, 32}};
        for (int[] one : given) {
            EnclaveHouse house = new EnclaveHouse(1);
            house.run(one[0]);
            house.setControl(1, 0x14d, one[1]);
            edges.are("TIME " + one[0] + ", COMPARE " + one[1], one[2] + " 0", house.control(1, 0x144),
                house.control(0, 0x144));
        }
    }

    private void pendingFromOutside() {
        edges.terms(3, 12, "9: the LINE is on, or a DMA is done that was not told, or a key waits for the system), ");
        EnclaveHouse house = new EnclaveHouse(1);
        edges.is("none", "0 0", pending(house));
        house.line(true);
        edges.is("the LINE", "512 512", pending(house));
        house.line(false);
        edges.is("none", "0 0", pending(house));
        house.call(0, 14, 0, 0, 0x400, 0);
        house.call(0, 1, 0x8000, 256, 0, 0);
        house.call(0, 14, 0, 0, 0x8000, 0);
        house.run(4);
        edges.is("two DMAs wait", "0 0", pending(house));
        house.run(1);
        edges.is("one is done", "512 512", pending(house));
        house.call(0, 15, 0, 0, 0, 0);
        edges.is("it was told", "0 0", pending(house));
        house.run(1);
        edges.are("one FAILED", "512 512 1", pending(house), house.count(18));
        house.call(0, 15, 0, 0, 0, 0);
        house.type(0);
        house.type(1);
        edges.is("two keys", "512 512", pending(house));
        house.call(0, 21, 0, 0, 0, 0);
        edges.is("one key", "512 512", pending(house));
        house.call(0, 21, 0, 0, 0, 0);
        edges.is("none", "0 0", pending(house));
        Bench bench = new Bench(1);
        new Agent(bench, 0x8000).ask(45);
        bench.house.type(7);
        edges.is("a key that waits on the PATH", "0 0", pending(bench.house));
    }

    private static String pending(EnclaveHouse house) {
        return house.control(0, 0x144) + " " + house.control(1, 0x144);
    }

    private void timeAndNumber() {
        edges.terms(3, 12, "0xc01 TIME (its lowest 32 bits), 0xf14 the hart's number.");
        EnclaveHouse house = new EnclaveHouse(1);
        house.run(2000);
        house.run(7);
        for (int hart = 0; hart < 2; hart++) {
            edges.are("hart " + hart, "2007 " + hart, house.control(hart, 0xc01), house.control(hart, 0xf14));
        }
    }

    private void writesOfPending() {
        edges.terms(3, 11, "What a write does not keep is 0 (of PENDING only bit 1 is written).");
        EnclaveHouse house = new EnclaveHouse(1);
        house.setControl(0, 0x100, -1);
        house.setControl(0, 0x100, 4);
        edges.is("STATUS", 0, house.control(0, 0x100));
        house.line(true);
        house.setControl(0, 0x14d, 0);
        house.setControl(0, 0x144, 0);
        edges.is("bits 5 and 9 stay", 544, house.control(0, 0x144));
        house.setControl(0, 0x144, -1);
        edges.is("bit 1 comes", 546, house.control(0, 0x144));
        house.line(false);
        house.setControl(0, 0x14d, -1);
        edges.is("bits 5 and 9 were not written", 2, house.control(0, 0x144));
    }

    private void illegalNumbers() {
        edges.terms(3, 11, "ILLEGAL: another number; a write of 0xc01, 0xf14; in U and with a THREAD all but 0xc01.");
        EnclaveHouse house = new EnclaveHouse(1);
        for (int number = 0; number < 4096; number++) {
            boolean kept = false;
            for (int one : KEPT) {
                kept |= one == number;
            }
            // An object has 512 calls; these are at most three each.
            house = number % 128 == 0 ? new EnclaveHouse(1) : house;
            edges.is("setControl " + number, kept ? 0 : -1, house.setControl(0, number, 0));
            if (!kept && number != 0xc01 && number != 0xf14) {
                edges.is("control " + number, 0, house.control(0, number));
            }
        }
        for (int number : new int[] {-1, MIN, MAX, 0x1100, 0x1140, 0x10000140, -0x100, 0xc01 - 4096}) {
            edges.are("no number " + number, "-1 0", house.setControl(0, number, 1), house.control(0, number));
        }
        edges.are("all stayed", "0 0", house.control(0, 0x100), house.control(0, 0x140));
        for (int number : new int[] {0, 0x101, 0x106, 0x145, 0x181, 0x300, 0xc00, 0xc02, 0xf13, 0xf15, 0xfff}) {
            int word = Code.control(7, 2, 0, number);
            edges.is("read in S " + number, "2 " + word, new Steps(word).run(1).trap());
        }
    }

    private void illegalByMode() {
        edges.terms(3, 14, "in U and with a THREAD all but 0xc01.");
        for (int number : new int[] {0x100, 0x104, 0x105, 0x140, 0x141, 0x142, 0x143, 0x144, 0x14d, 0x180, 0xf14,
            0x101}) {
            int word = Code.control(7, 2, 0, number);
            edges.is("in U " + number, "2 " + word, new Steps(word).from(Steps.AT, 0).run(1).trap());
            Bench bench = new Bench(1);
            bench.enter(bench.enclave(0x8000, 256, 0, new Code().word(word)), 0, 0);
            edges.are("with a THREAD " + number, "3 2", bench.house.register(0, 10), bench.house.register(0, 11));
        }
        int read = Code.control(7, 2, 0, 0xc01);
        edges.is("TIME in U", 2, new Steps(Code.NOTHING, Code.NOTHING, read).from(Steps.AT, 0).run(3).x(7));
        Bench bench = new Bench(1);
        int thread = bench.enclave(0x8000, 256, 0, new Code().word(Code.NOTHING).word(read).word(Code.BREAK));
        bench.enter(thread, 0, 0);
        edges.is("TIME with a THREAD", 1, bench.house.inside(thread, 7));
        for (int f : new int[] {1, 5}) {
            int write = Code.control(7, f, 0, 0xc01);
            edges.is("a write in U", "2 " + write, new Steps(write).from(Steps.AT, 0).run(1).trap());
            bench = new Bench(1);
            bench.enter(bench.enclave(0x8000, 256, 0, new Code().word(write)), 0, 0);
            edges.are("a write with a THREAD", "3 2", bench.house.register(0, 10), bench.house.register(0, 11));
        }
    }

    private void traps() {
        edges.terms(3, 14, "A TRAP goes to S: EPC is the PC, CAUSE the number (of an interrupt bit 31, too), ");
        for (int mode = 0; mode < 2; mode++) {
            Steps steps = new Steps(Code.NOTHING, Code.BREAK).from(Steps.AT, mode).run(2);
            edges.are("an exception", "1 260 3 2048", steps.house.count(12), steps.control(0x141),
                steps.control(0x142), steps.pc());
            steps = new Steps(Code.NOTHING).control(0x104, 2).control(0x144, 2).control(0x100, 2).from(Steps.AT, mode)
                .run(1);
            edges.are("an interrupt", "1 256 " + (MIN + 1) + " 2048", steps.house.count(12), steps.control(0x141),
                steps.control(0x142), steps.pc());
        }
        edges.are("the other hart's stay", "0 0", new Steps(0).run(1).house.control(1, 0x141), new Steps(0).run(1)
            .house.control(1, 0x142));
    }

    private void valuesOfTraps() {
        edges.terms(3, 14, "TVAL: of 0 the place to go on at, of 2 the word, of 3 the PC, of 1, 4 to 7, 12, 13, 15 "
            + "the address, else 0;");
        edges.is("0", "0 258", trapOf(new Steps(Code.jumping(0, 2))));
        edges.is("2", "2 -1", trapOf(new Steps(-1)));
        edges.is("2 of the word 0", "2 0", trapOf(new Steps(0)));
        edges.is("3", "3 256", trapOf(new Steps(Code.BREAK)));
        edges.is("1", "1 131072", trapOf(new Steps().from(131072, 1)));
        edges.is("1 far off", "1 -4", trapOf(new Steps().from(-4, 1)));
        edges.is("4", "4 3", trapOf(new Steps(LOAD).set(5, 3)));
        edges.is("5", "5 " + MIN, trapOf(new Steps(LOAD).set(5, MIN)));
        edges.is("6", "6 -1", trapOf(new Steps(STORE).set(5, -1)));
        edges.is("7", "7 131072", trapOf(new Steps(STORE).set(5, 131072)));
        edges.is("8", "8 0", trapOf(new Steps(Code.CALL).from(Steps.AT, 0)));
        edges.is("12", "12 16384", trapOf(new Steps().paged().from(ADDRESS, 1)));
        edges.is("13", "13 16388", trapOf(new Steps(LOAD).paged().set(5, ADDRESS + 4)));
        edges.is("15", "15 -4", trapOf(new Steps(STORE).paged().set(5, -4)));
        for (int bit : new int[] {1, 5, 9}) {
            Steps steps = new Steps(Code.NOTHING).control(0x104, 1 << bit).control(0x144, 2).control(0x14d, 0)
                .control(0x100, 2);
            steps.house.line(true);
            edges.is("interrupt " + bit, (MIN | bit) + " 0", trapOf(steps));
        }
    }

    private static String trapOf(Steps steps) {
        return steps.control(0x143, 77).run(1).trap();
    }

    private void statusOfTraps() {
        edges.terms(3, 14, "PIE becomes IE, IE 0, PP 1 if it came from S, else 0; the MODE is S, the PC TVEC.");
        int[][] given = {{0, 0}, {2, 32}, {32, 0}, {34, 32}, {256, 0}, {2 | 256, 32}, {SUM | MXR, SUM | MXR},
            {-1, SUM | MXR | 32}};
        for (int[] one : given) {
            for (int mode = 0; mode < 2; mode++) {
                Steps steps = new Steps(0).control(0x100, one[0]).from(Steps.AT, mode).run(1);
                edges.are("STATUS " + one[0] + " in MODE " + mode, (one[1] | mode << 8) + " 1 2048",
                    steps.control(0x100), steps.house.count(12), steps.pc());
            }
        }
        edges.is("TVEC far off", -4, new Steps(0).control(0x105, -1).run(1).pc());
    }

    private void alignment() {
        edges.terms(3, 14, "ADDRESSES of U and S: loads and stores of two bytes at an odd address, of words not at a "
            + "multiple of 4: exception 4 (load, and LOADING of op 47 with 2), 6 (store).");
        for (int mode = 0; mode < 2; mode++) {
            for (int off = 0; off < 4; off++) {
                for (int f = 0; f < 6; f++) {
                    if (f != 3) {
                        boolean fine = off % (1 << (f & 3)) == 0;
                        edges.is("load " + f + " at " + off, fine ? "none" : "4 " + (PLACE + off),
                            aligned(mode, off, Code.byNumber(3, 7, f, 5, 0)));
                    }
                    if (f < 3) {
                        boolean fine = off % (1 << f) == 0;
                        edges.is("store " + f + " at " + off, fine ? "none" : "6 " + (PLACE + off),
                            aligned(mode, off, Code.storing(f, 5, 6, 0)));
                    }
                }
                edges.is("op 47 with 2 at " + off, off == 0 ? "none" : "4 " + (PLACE + off),
                    aligned(mode, off, Code.inMemory(2, 7, 5, 0)));
                edges.is("op 47 with 3 at " + off, off == 0 ? "none" : "6 " + (PLACE + off),
                    aligned(mode, off, Code.inMemory(3, 7, 5, 6)));
            }
        }
        edges.is("ahead of what is not there", "4 131073", new Steps(LOAD).set(5, 131073).run(1).trap());
        edges.is("ahead of a page fault", "6 16385", new Steps(STORE).paged().set(5, ADDRESS + 1).run(1).trap());
    }

    private static String aligned(int mode, int off, int word) {
        return new Steps(word).set(5, PLACE + off).from(Steps.AT, mode).run(1).trap();
    }

    private void placeWithoutTables() {
        edges.terms(3, 14, "With bit 31 of ATP clear an address is its PLACE; else a WALK: ");
        for (int mode = 0; mode < 2; mode++) {
            Steps steps = new Steps(LOAD).paged().at(ADDRESS, 55).control(0x180, MAX).set(5, ADDRESS)
                .from(Steps.AT, mode).run(1);
            edges.is("bit 31 clear in MODE " + mode, 55, steps.x(7));
            steps = new Steps(LOAD).at(ADDRESS, 55).control(0x180, MIN).set(5, ADDRESS).from(Steps.AT, mode).run(1);
            edges.is("bit 31 set in MODE " + mode, "12 256", steps.trap());
        }
    }

    /** Hart 0 with pages on and page 4 with this entry, about to fetch, load or store there. */
    private static Steps paged(int access, int entry, int status, int mode) {
        Steps steps = new Steps(access == 1 ? LOAD : STORE).paged().at(PLACE, Code.NOTHING).page(4, entry);
        // The code's page is for the MODE that it runs in.
        steps.page(0, Steps.ALL_OF_S | (mode == 0 ? 16 : 0));
        return steps.control(0x100, status).set(5, ADDRESS).set(6, 7).from(access == 0 ? ADDRESS : Steps.AT, mode);
    }

    private void walks(String what, int access, int entry, int status, int mode, boolean may) {
        String due = may ? "none" : PAGE_FAULTS[access] + " " + ADDRESS;
        edges.is(what + ": " + ACCESSES[access] + ", STATUS " + status + ", MODE " + mode, due,
            paged(access, entry, status, mode).run(1).trap());
    }

    private void tables() {
        edges.terms(3, 14, "the entry at bits 21 .. 0 of ATP times 4,096, and 4 times the upper ten bits (22 to 31) "
            + "behind it; a LEAF, if bit 1, 2 or 3 (R, W, X) is set; else 4,096 times its bits 31 .. 10 is the table "
            + "of which the entry at 4 times the next ten bits (12 to 21) must be a LEAF.");
        int[][] given = {{0, 4, 0}, {0, 1023, 0xffc}, {1, 0, 4}, {1023, 0, 0}, {1023, 1023, 0xffc}, {512, 512, 0x800}};
        for (int[] one : given) {
            Steps steps = new Steps(LOAD).paged();
            int second = one[0] == 0 ? Steps.SECOND_TABLE : 0x6000;
            steps.at(PLACE, 50).at(PLACE + 0x7f0, 0, 0, 0, 0, 58).at(PLACE + 0xfec, 0, 0, 0, 0, 59)
                .oneAt(PLACE + 4, 51);
            one(steps, Steps.FIRST_TABLE + 4 * one[0], second >> 2 | 1);
            one(steps, second + 4 * one[1], Steps.leaf(PLACE, Steps.ALL_OF_S));
            steps.set(5, one[0] << 22 | one[1] << 12 | one[2]).run(1);
            int due = one[2] == 0 ? 50 : one[2] == 4 ? 51 : one[2] == 0x800 ? 58 : 59;
            edges.is("entries " + one[0] + " and " + one[1], due, steps.x(7));
        }
        Steps steps = new Steps(LOAD).paged().at(PLACE, 50).page(4, Steps.leaf(PLACE, Steps.ALL_OF_S)).set(5, ADDRESS);
        // The same tables, the first one at the last page of MEMORY.
        steps.at(0x1f000, Steps.SECOND_TABLE >> 2 | 1).control(0x180, 1 << 31 | 31).run(1);
        edges.is("a table in the last page", 50, steps.x(7));
        for (int bits : new int[] {2, 8, 2 | 4, 2 | 8, 2 | 4 | 8}) {
            steps = paged(bits == 8 ? 0 : 1, Steps.leaf(PLACE, 0xc1 | bits), 0, 1).run(1);
            edges.is("a LEAF with " + bits, "none", steps.trap());
        }
    }

    /** Pokes one word at the end of a table, too. */
    private static void one(Steps steps, int place, int word) {
        steps.at(place - 16, steps.house.word(place - 16), steps.house.word(place - 12), steps.house.word(place - 8),
            steps.house.word(place - 4), word);
    }

    /** Places have 34 bits; none above MEMORY is there, also where its lowest 32 bits are those of a table. */
    private void farTables() {
        edges.terms(3, 14, "else 4,096 times its bits 31 .. 10 is the table ");
        for (int table : new int[] {32, 0x100000 | Steps.FIRST_TABLE >> 12, 0x200000 | Steps.FIRST_TABLE >> 12,
            0x3fffff}) {
            edges.is("the first table at page " + table, "1 256", new Steps(LOAD).paged()
                .control(0x180, 1 << 31 | table).run(1).trap());
        }
        for (int table : new int[] {32, 0x100000 | 6, 0x200000 | 6, 0x3fffff}) {
            for (int access = 0; access < 3; access++) {
                Steps steps = paged(access, 0, 0, 1).at(0x6000, Steps.leaf(PLACE, Steps.ALL_OF_S));
                steps.oneAt(Steps.FIRST_TABLE + 4, table << 10 | 1).set(5, 1 << 22);
                steps.from(access == 0 ? 1 << 22 : Steps.AT, 1).run(1);
                edges.is("the second table at page " + table, DENIALS[access] + " " + (1 << 22), steps.trap());
            }
        }
    }

    private void faultyEntries() {
        edges.terms(3, 14, "PAGE FAULT, 12 (fetch), 13 (load), 15 (store): an entry has bit 0 (V) clear, or W "
            + "without R; the second one is no LEAF;");
        for (int access = 0; access < 3; access++) {
            walks("V clear", access, Steps.leaf(PLACE, 0xce), 0, 1, false);
            walks("W without R", access, Steps.leaf(PLACE, 0xc5), 0, 1, false);
            walks("W and X without R", access, Steps.leaf(PLACE, 0xcd), MXR, 1, false);
            walks("no LEAF", access, Steps.leaf(PLACE, 0xc1), 0, 1, false);
            walks("all 0", access, 0, 0, 1, false);
            walks("fine", access, Steps.leaf(PLACE, Steps.ALL_OF_S), 0, 1, true);
            for (int entry : new int[] {0, Steps.SECOND_TABLE >> 2, 0xce, 0xc5, 0xcd}) {
                Steps steps = paged(access, 0, MXR, 1).oneAt(Steps.FIRST_TABLE + 4, entry).set(5, 1 << 22);
                steps.from(access == 0 ? 1 << 22 : Steps.AT, 1).run(1);
                edges.is("in the first table " + entry, PAGE_FAULTS[access] + " " + (1 << 22), steps.trap());
            }
        }
    }

    private void bigPages() {
        edges.terms(3, 14, "a LEAF in the first table has one of bits 10 .. 19 set; or the LEAF does not allow it: ");
        for (int bit = 8; bit < 22; bit++) {
            for (int access = 0; access < 3; access++) {
                int address = 1 << 22 | PLACE;
                Steps steps = paged(access, 0, 0, 1).oneAt(Steps.FIRST_TABLE + 4, Steps.ALL_OF_S | 1 << bit)
                    .set(5, address);
                steps.from(access == 0 ? address : Steps.AT, 1).run(1);
                int due = bit < 10 ? -1 : bit < 20 ? PAGE_FAULTS[access] : DENIALS[access];
                edges.is(ACCESSES[access] + " with bit " + bit, due < 0 ? "none" : due + " " + address, steps.trap());
            }
        }
        for (int access = 0; access < 3; access++) {
            int address = 1 << 22 | PLACE;
            Steps steps = paged(access, 0, 0, 1).oneAt(Steps.FIRST_TABLE + 4, Steps.ALL_OF_S & ~64).set(5, address);
            steps.from(access == 0 ? address : Steps.AT, 1).run(1);
            edges.is("a LEAF in the first table without A", PAGE_FAULTS[access] + " " + address, steps.trap());
        }
    }

    private void rights() {
        edges.terms(3, 14, "a fetch wants X, a load R (or X with MXR), a store W; ");
        boolean[][] may = {{false, true, false}, {false, true, true}, {true, false, false}, {true, true, false},
            {true, true, true}};
        int[] bits = {2, 6, 8, 10, 14};
        for (int i = 0; i < bits.length; i++) {
            for (int access = 0; access < 3; access++) {
                int entry = Steps.leaf(PLACE, 0xc1 | bits[i]);
                walks("R, W, X " + bits[i], access, entry, 0, 1, may[i][access]);
                walks("R, W, X " + bits[i], access, entry, MXR, 1, may[i][access] || access == 1);
                walks("R, W, X " + bits[i], access, entry | 16, MXR, 0, may[i][access] || access == 1);
                walks("R, W, X " + bits[i], access, entry | 16, 0, 0, may[i][access]);
            }
        }
    }

    private void dirty() {
        edges.terms(3, 14, "bit 6 (A) must be set, for stores bit 7 (D);");
        for (int access = 0; access < 3; access++) {
            walks("A and D", access, Steps.leaf(PLACE, 0xcf), 0, 1, true);
            walks("A alone", access, Steps.leaf(PLACE, 0x4f), 0, 1, access != 2);
            walks("D alone", access, Steps.leaf(PLACE, 0x8f), 0, 1, false);
            walks("neither", access, Steps.leaf(PLACE, 0x0f), 0, 1, false);
        }
    }

    private void userPages() {
        edges.terms(3, 14, "U wants bit 4 (U) set, S clear, but for loads and stores with SUM either way.");
        for (int access = 0; access < 3; access++) {
            for (int status : new int[] {0, SUM, MXR}) {
                int ofS = Steps.leaf(PLACE, Steps.ALL_OF_S);
                walks("bit 4 clear", access, ofS, status, 1, true);
                walks("bit 4 clear", access, ofS, status, 0, false);
                walks("bit 4 set", access, ofS | 16, status, 0, true);
                walks("bit 4 set", access, ofS | 16, status, 1, status == SUM && access != 0);
            }
        }
    }

    private void placesOfLeaves() {
        edges.terms(3, 14, "The PLACE has bits 33 .. 12 from bits 31 .. 10 of the LEAF (of a LEAF in the first table "
            + "bits 21 .. 12 from the address), bits 11 .. 0 from the address.");
        for (int offset : new int[] {0, 4, 0x7fc, 0xffc}) {
            Steps steps = new Steps(STORE).paged().page(4, Steps.leaf(PLACE, Steps.ALL_OF_S)).set(5, ADDRESS + offset)
                .set(6, 9).run(1);
            edges.is("bits 11 .. 0: " + offset, 9, steps.house.word(PLACE + offset));
        }
        for (int offset : new int[] {1, 2, 3, 0xfff}) {
            Steps steps = new Steps(Code.storing(0, 5, 6, 0)).paged().page(4, Steps.leaf(PLACE, Steps.ALL_OF_S))
                .set(5, ADDRESS + offset).set(6, 9).run(1);
            edges.is("a byte, bits 11 .. 0: " + offset, 9 << 8 * (offset & 3), steps.house.word(PLACE + offset & ~3));
        }
        Steps last = new Steps(STORE).paged().page(4, Steps.leaf(0x1f000, Steps.ALL_OF_S)).set(5, ADDRESS + 0xffc)
            .set(6, 9).run(1);
        edges.is("the last page", 9, last.house.word(131068));
        Steps first = new Steps(STORE).paged().page(4, Steps.leaf(0, Steps.ALL_OF_S)).set(5, ADDRESS).set(6, 9).run(1);
        edges.is("the first page", 9, first.house.word(0));
        for (int number : new int[] {32, 1 << 20, 1 << 21, 1 << 20 | 5, 0x3fffff}) {
            for (int access = 0; access < 3; access++) {
                Steps steps = paged(access, number << 10 | Steps.ALL_OF_S, 0, 1).run(1);
                edges.is("page " + number + " is not there", DENIALS[access] + " " + ADDRESS, steps.trap());
            }
        }
        for (int place : new int[] {0, 0x1000, PLACE, 131068}) {
            Steps steps = new Steps(STORE).paged().oneAt(Steps.FIRST_TABLE + 4, Steps.ALL_OF_S).set(5, 1 << 22 | place)
                .set(6, 9).run(1);
            edges.is("a LEAF in the first table, " + place, 9, steps.house.word(place));
        }
        for (int number : new int[] {1 << 10, 1 << 20, 1 << 21}) {
            Steps steps = new Steps(LOAD).paged().oneAt(Steps.FIRST_TABLE + 4, number << 10 | Steps.ALL_OF_S)
                .set(5, 1 << 22 | PLACE).run(1);
            edges.is("a LEAF in the first table, page " + number, "5 " + (1 << 22 | PLACE), steps.trap());
        }
        edges.is("behind MEMORY by the address", "5 " + (1 << 22 | 131072), new Steps(LOAD).paged()
            .oneAt(Steps.FIRST_TABLE + 4, Steps.ALL_OF_S).set(5, 1 << 22 | 131072).run(1).trap());
    }

    private void letThrough() {
        edges.terms(3, 14, "Each entry must be LET THROUGH (4) as a load of a word, and at last the access itself at "
            + "its PLACE: else exception 1 (fetch), 5 (load), 7 (store), by what was asked for.");
        for (int access = 0; access < 3; access++) {
            Steps steps = paged(access, Steps.leaf(0x8000, Steps.ALL_OF_S), 0, 1);
            steps.house.call(0, 1, 0x8000, 256, 0, 0);
            edges.is("the place is an enclave's", DENIALS[access] + " " + ADDRESS, steps.run(1).trap());
            steps = paged(access, Steps.leaf(0x8000, Steps.ALL_OF_S), 0, 1);
            steps.house.call(0, 1, 0x8100, 256, 0, 0);
            steps.at(0x8000, Code.NOTHING);
            edges.is("the place is right ahead of an enclave's", "none", steps.run(1).trap());
            steps = paged(access, Steps.leaf(0x8000, Steps.ALL_OF_S & ~64), 0, 1);
            steps.house.call(0, 1, 0x8000, 256, 0, 0);
            edges.is("a page fault comes first", PAGE_FAULTS[access] + " " + ADDRESS, steps.run(1).trap());
            steps = paged(access, 0, 0, 1).oneAt(Steps.FIRST_TABLE + 4, Steps.leaf(0x8000, 1)).set(5, 1 << 22);
            steps.house.call(0, 1, 0x8000, 256, 0, 0);
            steps.from(access == 0 ? 1 << 22 : Steps.AT, 1).run(1);
            edges.is("the second table is an enclave's", DENIALS[access] + " " + (1 << 22), steps.trap());
            steps = paged(access, 0, 0, 1).oneAt(Steps.FIRST_TABLE + 4, Steps.leaf(0x8000, 1)).set(5, 1 << 22);
            steps.at(0x8000, Steps.leaf(PLACE, Steps.ALL_OF_S));
            steps.house.call(0, 1, 0x9000, 256, 0, 0);
            steps.house.call(0, 9, 0, 0x8000, 256, 0);
            steps.from(access == 0 ? 1 << 22 : Steps.AT, 1).run(1);
            edges.is("the second table is SHARED", "none", steps.trap());
        }
        Steps steps = new Steps(LOAD).paged();
        steps.house.call(0, 1, Steps.FIRST_TABLE, 256, 0, 0);
        edges.is("the first table is an enclave's", "1 256", steps.run(1).trap());
    }

    private void withAThread() {
        edges.terms(3, 14, "With a THREAD the address is the PLACE; alike exceptions 4, 6, then 1, 5, 7.");
        int[][] given = {
            {Code.byNumber(3, 7, 2, 5, 0), 0x8000, 0}, {Code.byNumber(3, 7, 2, 5, 2), 0x8000, 4},
                {Code.byNumber(3, 7, 1, 5, 1), 0x8000, 4},
            {Code.byNumber(3, 7, 2, 5, 1), 0x400, 4}, {Code.byNumber(3, 7, 2, 5, 0), 0x400, 5},
            {Code.storing(2, 5, 6, 2), 0x80f0, 6},
            {Code.storing(1, 5, 6, 1), 0x400, 6}, {Code.storing(2, 5, 6, 0), 0x400, 7},
            {Code.storing(0, 5, 6, 3), 0x80f0, 0},
            {Code.inMemory(2, 7, 5, 0), 0x8002, 4}, {Code.inMemory(3, 7, 5, 6), 0x8002, 6},
            {Code.inMemory(3, 7, 5, 6), 0x400, 7},
            {Code.inMemory(2, 7, 5, 0), 0x400, 5}, {Code.byNumber(103, 0, 0, 5, 0), 0x400, 1},
            {Code.byNumber(103, 0, 0, 5, 2), 0x8000, -1}
        };
        for (int[] one : given) {
            Bench bench = new Bench(1);
            int thread = bench.enclave(0x8000, 256, 0, new Code().set(5, one[1]).word(one[0]).exit(0));
            bench.house.setControl(0, 0x180, 1 << 31 | 2);
            bench.enter(thread, 0, 0);
            String due = one[2] == 0 ? "0 0" : "3 " + (one[2] < 0 ? 0 : one[2]);
            edges.are(Integer.toHexString(one[0]) + " at " + one[1], due, bench.house.register(0, 10),
                bench.house.register(0, 11));
        }
    }
}
