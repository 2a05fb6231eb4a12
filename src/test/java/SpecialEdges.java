/** The document's Terms, section 2: op 47, RESERVATIONS, and op 115. */
final class SpecialEdges {
    private static final int MIN = Integer.MIN_VALUE;
    private static final int MAX = Integer.MAX_VALUE;
    private static final int DATA = 0x400;
    private static final int RESERVE = Code.inMemory(2, 7, 5, 0);
    private static final int STORE_IF = Code.inMemory(3, 8, 5, 6);
    private static final int SHARED = 0xa000;

    private final Edges edges;

    private SpecialEdges(Edges itsEdges) {
        edges = itsEdges;
    }

    static void all(Edges edges) {
        SpecialEdges of = new SpecialEdges(edges);
        of.reserving();
        of.placeIsInMemory();
        of.storingIf();
        of.others();
        of.accessesAsStores();
        of.lostByStores();
        of.lostByOthers();
        of.lostByDevices();
        of.lostByTheMonitor();
        of.lostByThreads();
        of.controlKinds();
        of.controlWithoutWrite();
        of.calls();
        of.breaks();
        of.leavingTraps();
        of.waits();
        of.illegalElsewhere();
    }

    private Steps at(int... words) {
        return new Steps(words).at(DATA, 41, 42).set(5, DATA).set(6, 99).set(7, 0x77).set(8, 0x88);
    }

    private void reserving() {
        edges.terms(2, 14, "47, f 2, by g / 4 (its two lowest bits do not count), on the word at x[a]: 2, b 0: x[d] "
            + "is loaded, and ");
        for (int low = 0; low < 4; low++) {
            edges.is("2 with " + low, 41, at(RESERVE | low << 25).run(1).x(7));
            Steps steps = at(Code.inMemory(0, 7, 5, 6) | low << 25).run(1);
            edges.are("0 with " + low, "41 140", steps.x(7), steps.house.word(DATA));
            steps = at(RESERVE, STORE_IF | low << 25).run(2);
            edges.are("3 with " + low, "0 99", steps.x(8), steps.house.word(DATA));
        }
        for (int a : new int[] {1, 2, 4, 8, 16, 31}) {
            edges.is("2, a " + a, 41, at(Code.inMemory(2, 7, a, 0)).set(a, DATA).run(1).x(7));
        }
        for (int b : new int[] {1, 2, 4, 6, 8, 16, 31}) {
            int word = Code.inMemory(2, 7, 5, b);
            edges.is("2, b " + b, "2 " + word, at(word).run(1).trap());
        }
        for (int f = 0; f < 8; f++) {
            int word = RESERVE & ~(7 << 12) | f << 12;
            edges.is("f " + f, f == 2 ? "none" : "2 " + word, at(word).run(1).trap());
        }
        boolean[] known = new boolean[32];
        for (int kind : new int[] {0, 1, 3, 4, 8, 12, 16, 20, 24, 28}) {
            known[kind] = true;
        }
        for (int kind = 0; kind < 32; kind++) {
            int word = Code.inMemory(kind, 7, 5, 6);
            edges.is("kind " + kind, known[kind] ? "none" : "2 " + word, at(word).run(1).trap());
        }
    }

    /** Two pages of addresses are one place; then one address becomes another place. */
    private void placeIsInMemory() {
        edges.terms(2, 14, "the hart's RESERVATION is that word (its place in MEMORY).");
        int leaf = Steps.leaf(0x5000, Steps.ALL_OF_S);
        Steps steps = new Steps(RESERVE, Code.inMemory(3, 8, 9, 6)).paged().page(4, leaf).page(7, leaf);
        steps.set(5, 0x4010).set(9, 0x7010).set(8, 5).run(2);
        edges.is("by another address", 0, steps.x(8));
        steps = new Steps(RESERVE, STORE_IF).paged().page(4, leaf).set(5, 0x4010).set(8, 5).run(1);
        steps.page(4, Steps.leaf(0x6000, Steps.ALL_OF_S)).run(1);
        edges.is("the address is another place now", 1, steps.x(8));
        edges.is("the first word of MEMORY", 0, new Steps(RESERVE, STORE_IF).set(5, 0).set(8, 5).run(2).x(8));
        edges.is("the last word of MEMORY", 0, new Steps(RESERVE, STORE_IF).set(5, 131068).set(8, 5).run(2).x(8));
    }

    private void storingIf() {
        edges.terms(2, 14, "3: if the RESERVATION is that word x[b] is stored and x[d] is 0, else x[d] is 1; the "
            + "hart has none then.");
        edges.is("none at first", "1 41", line(at(STORE_IF).run(1)));
        edges.is("none at place 0 at first", 1, new Steps(STORE_IF).set(5, 0).run(1).x(8));
        edges.is("that word", "0 99", line(at(RESERVE, STORE_IF).run(2)));
        edges.is("none then", 1, at(RESERVE, Code.inMemory(3, 9, 5, 6), STORE_IF).run(3).x(8));
        for (int beside : new int[] {-4, 4}) {
            Steps steps = at(RESERVE, STORE_IF, Code.inMemory(3, 9, 10, 6)).set(10, DATA);
            steps.run(1).set(5, DATA + beside).run(2);
            edges.are("the word beside it, and none then", "1 1 41", steps.x(8), steps.x(9), steps.house.word(DATA));
        }
        edges.is("a new one is instead of the old one", 1, at(RESERVE, Code.inMemory(2, 9, 10, 0), STORE_IF)
            .set(10, DATA + 4).run(3).x(8));
        Steps steps = at(RESERVE, Code.inMemory(3, 6, 5, 6)).run(2);
        edges.are("d is b", "0 99", steps.x(6), steps.house.word(DATA));
        steps = at(RESERVE);
        steps.house.place(1, Steps.AT + 8, 1);
        steps.at(Steps.AT, RESERVE, Code.NOTHING, Code.NOTHING, STORE_IF).run(1);
        steps.house.setRegister(1, 5, DATA);
        steps.house.run(1);
        edges.is("the other hart has another one", 1, steps.house.register(1, 8));
    }

    /** x8 and the word. */
    private static String line(Steps steps) {
        return steps.x(8) + " " + steps.house.word(DATA);
    }

    private void others() {
        edges.terms(2, 14, "Others: x[d] is loaded, and what is stored is, of that and x[b], 1: x[b]; 0: the sum; 4: "
            + "xor; 8: or; 12: and; 16: the lesser; 20: the greater; 24: the lesser U; 28: the greater U.");
        int[][] pairs = {{MAX, 1}, {MIN, -1}, {0, 0}, {-1, 0}, {0, -1}, {MIN, MAX}, {MAX, MIN}, {12, 10}, {7, 7}};
        for (int[] pair : pairs) {
            int was = pair[0];
            int x6 = pair[1];
            boolean belowU = (was & 0xffffffffL) < (x6 & 0xffffffffL);
            int[][] due = {{1, x6}, {0, was + x6}, {4, was ^ x6}, {8, was | x6}, {12, was & x6},
                {16, Math.min(was, x6)},
                {20, Math.max(was, x6)}, {24, belowU ? was : x6}, {28, belowU ? x6 : was}};
            for (int[] one : due) {
                Steps steps = new Steps(Code.inMemory(one[0], 7, 5, 6)).at(DATA, was, 5).set(5, DATA).set(6, x6).run(1);
                edges.are("kind " + one[0] + " of " + was + ", " + x6, was + " " + one[1] + " 5", steps.x(7),
                    steps.house.word(DATA), steps.house.word(DATA + 4));
            }
        }
    }

    private void accessesAsStores() {
        edges.terms(2, 14, "All but 2 are accesses as stores (also where nothing is stored).");
        for (int kind : new int[] {0, 1, 2, 3, 4, 8, 12, 16, 20, 24, 28}) {
            int word = Code.inMemory(kind, 7, 5, 0);
            boolean loads = kind == 2;
            for (int off = 1; off < 4; off++) {
                edges.is(kind + " at no multiple of 4", (loads ? "4 " : "6 ") + (DATA + off), at(word)
                    .set(5, DATA + off).run(1).trap());
            }
            edges.is(kind + " behind MEMORY", (loads ? "5 " : "7 ") + 131072, at(word).set(5, 131072).run(1).trap());
            edges.is(kind + " far off", (loads ? "5 " : "7 ") + -4, at(word).set(5, -4).run(1).trap());
            Steps steps = new Steps(word).paged().page(4, Steps.leaf(0x5000, 0xc3)).set(5, 0x4000).run(1);
            edges.is(kind + " of a page without W", loads ? "none" : "15 16384", steps.trap());
            steps = new Steps(word).paged().page(4, Steps.leaf(0x5000, 0x47)).set(5, 0x4000).run(1);
            edges.is(kind + " of a page without D", loads ? "none" : "15 16384", steps.trap());
            steps = new Steps(word).paged().page(4, 0).set(5, 0x4000).run(1);
            edges.is(kind + " of no page", loads ? "13 16384" : "15 16384", steps.trap());
        }
        Steps steps = at(RESERVE, Code.inMemory(3, 9, 10, 6)).set(10, 131072).run(2);
        steps.at(Steps.AT, STORE_IF).from(Steps.AT, 1).run(1);
        edges.is("an exception leaves the RESERVATION", 0, steps.x(8));
    }

    private void lostByStores() {
        edges.terms(2, 14, "A RESERVATION is lost, too, when a byte of its word is stored by anybody ");
        for (int offset = -1; offset < 5; offset++) {
            boolean ofIt = offset >= 0 && offset < 4;
            edges.is("a byte at " + offset, ofIt ? 1 : 0, at(RESERVE, Code.storing(0, 5, 0, offset), STORE_IF).run(3)
                .x(8));
        }
        for (int offset : new int[] {-2, 0, 2, 4}) {
            boolean ofIt = offset >= 0 && offset < 4;
            edges.is("two bytes at " + offset, ofIt ? 1 : 0, at(RESERVE, Code.storing(1, 5, 0, offset), STORE_IF)
                .run(3).x(8));
        }
        for (int offset : new int[] {-4, 0, 4}) {
            edges.is("a word at " + offset, offset == 0 ? 1 : 0, at(RESERVE, Code.storing(2, 5, 0, offset), STORE_IF)
                .run(3).x(8));
        }
        edges.is("what was there already", 1, at(RESERVE, Code.storing(2, 5, 7, 0), STORE_IF).run(3).x(8));
        edges.is("op 47", 1, at(RESERVE, Code.inMemory(8, 9, 5, 0), STORE_IF).run(3).x(8));
        edges.is("a store that is an exception", 0, exceptionBetween(Code.storing(2, 5, 0, 2)));
        edges.is("a load", 0, at(RESERVE, Code.byNumber(3, 9, 2, 5, 0), STORE_IF).run(3).x(8));
    }

    private int exceptionBetween(int word) {
        return at(RESERVE, word).control(0x105, Steps.AT + 64).at(Steps.AT + 64, STORE_IF).run(3).x(8);
    }

    /** Hart 1 does a word while hart 0 has its RESERVATION. */
    private void lostByOthers() {
        edges.terms(2, 14, "is stored by anybody ");
        int[][] given = {{Code.storing(0, 5, 6, 3), 1}, {Code.storing(0, 5, 6, 4), 0}, {Code.inMemory(0, 9, 5, 0), 1},
            {Code.inMemory(2, 9, 5, 0), 0}, {Code.inMemory(3, 9, 5, 6), 0}};
        for (int[] one : given) {
            Steps steps = at(RESERVE, Code.NOTHING, STORE_IF).at(0x200, Code.NOTHING, one[0], Code.NOTHING);
            steps.house.place(1, 0x200, 1);
            steps.house.setRegister(1, 5, DATA);
            edges.is("hart 1 did " + Integer.toHexString(one[0]), one[1], steps.run(3).x(8));
        }
        Steps steps = at(RESERVE, STORE_IF, Code.NOTHING).at(0x200, RESERVE, Code.NOTHING, STORE_IF);
        steps.house.place(1, 0x200, 1);
        steps.house.setRegister(1, 5, DATA);
        steps.run(3);
        edges.are("both reserve, hart 0 stores first", "0 1", steps.x(8), steps.house.register(1, 8));
    }

    private void lostByDevices() {
        edges.terms(2, 14, "(also by the monitor, which makes bytes 0 or writes them, by LOAD, a device, poke()), ");
        for (int place : new int[] {DATA - 256, DATA - 252, DATA, DATA + 4}) {
            for (int back = 0; back < 2; back++) {
                Steps steps = at(RESERVE, Code.NOTHING, Code.NOTHING, Code.NOTHING, Code.NOTHING, STORE_IF);
                steps.house.call(0, 14, back, 0, place, 0);
                boolean ofIt = back == 0 && place <= DATA && place > DATA - 256;
                edges.is("a DMA at " + place + ", " + back, ofIt ? 1 : 0, steps.run(6).x(8));
            }
        }
        Steps failing = at(RESERVE, Code.NOTHING, Code.NOTHING, Code.NOTHING, Code.NOTHING, STORE_IF);
        failing.house.call(0, 1, DATA + 0x100, 256, 0, 0);
        failing.house.call(0, 14, 0, 0, DATA + 0x40, 0);
        failing.set(5, DATA + 0xfc).run(6);
        edges.are("a DMA that FAILED is no store", "0 1", failing.x(8), failing.house.count(18));
        for (int place : new int[] {DATA - 20, DATA - 16, DATA, DATA + 4}) {
            Steps steps = at(RESERVE, STORE_IF).run(1);
            steps.house.poke(place, 1, 1, 1, 1, 1);
            edges.is("poke at " + place, place > DATA - 20 && place <= DATA ? 1 : 0, steps.run(1).x(8));
        }
        Steps steps = at(RESERVE, STORE_IF).set(5, 131056).run(1);
        steps.house.poke(131056, 1, 1, 1, 1, 1);
        edges.is("a poke that came to nothing", 0, steps.run(1).x(8));
    }

    private void lostByTheMonitor() {
        edges.terms(2, 14, "(also by the monitor, which makes bytes 0 or writes them, ");
        int[][] given = {{DATA - 4, 0}, {DATA, 1}, {DATA + 252, 1}, {DATA + 256, 0}};
        for (int[] one : given) {
            Steps steps = at(RESERVE, STORE_IF).set(5, one[0]).run(1);
            steps.house.call(0, 1, DATA, 256, 0, 0);
            steps.house.call(0, 8, 0, 0, 0, 0);
            edges.is("an enclave was at " + DATA + ", the word at " + one[0], one[1], steps.run(1).x(8));
        }
        Steps sharing = at(RESERVE, STORE_IF).run(1);
        sharing.house.call(0, 1, 0x8000, 256, 0, 0);
        sharing.house.call(0, 9, 0, DATA, 256, 0);
        sharing.house.call(0, 11, 1, 0, 0, 0);
        edges.is("SHARE and DROP of it make nothing 0", 0, sharing.run(1).x(8));
        // Hart 1 reserves a word of the SHARED REGION; SELF writes 32 bytes there, or right behind it.
        for (int offset : new int[] {0, 28, -4, 32}) {
            Bench bench = new Bench(1);
            Agent agent = new Agent(bench, 0x8000);
            bench.call(9, agent.enclave, SHARED, 256);
            agent.ask(38, 2);
            new Code().word(RESERVE).word(Code.WAIT).word(STORE_IF).poke(bench.house, 0x200);
            bench.house.place(1, 0x200, 1);
            bench.house.setRegister(1, 5, SHARED + 64 + offset);
            agent.ask(39, SHARED + 64);
            bench.house.place(1, 0x208, 1);
            bench.house.run(1);
            edges.is("SELF was written, the word lies " + offset + " behind", offset >= 0 && offset < 32 ? 1 : 0,
                bench.house.register(1, 8));
        }
    }

    private void lostByThreads() {
        edges.terms(2, 14, "and when a THREAD begins or ceases to run on the hart.");
        for (int hart = 0; hart < 2; hart++) {
            Bench bench = new Bench(1);
            int thread = bench.enclave(0x8000, 256, 0, new Code().word(Code.jumping(0, 0)));
            new Code().word(RESERVE).word(Code.WAIT).word(STORE_IF).poke(bench.house, 0x200);
            bench.house.place(hart, 0x200, 1);
            bench.house.place(1 - hart, 0x204, 1);
            bench.house.setRegister(hart, 5, DATA);
            bench.house.run(2);
            bench.call(5, thread, 0, 0);
            bench.house.setControl(0, 0x104, 2);
            bench.house.setControl(0, 0x144, 2);
            bench.house.run(2);
            bench.house.setControl(0, 0x144, 0);
            bench.house.place(hart, 0x208, 1);
            bench.house.run(1);
            edges.is("a THREAD ran on hart 0, reserved was on " + hart, hart == 0 ? 1 : 0,
                bench.house.register(hart, 8));
        }
        edges.is("reserved by the system, tried by the THREAD", 1, reservedAcross(false));
        edges.is("reserved by the THREAD, tried by the system", 1, reservedAcross(true));
    }

    /** The word is SHARED, so that both can reach it. */
    private static int reservedAcross(boolean byThread) {
        Bench bench = new Bench(1);
        Code code = new Code().word(Code.byNumber(19, 5, 0, 11, 0)).set(17, 38).word(Code.CALL).set(17, 33)
            .word(Code.CALL)
            .word(byThread ? RESERVE : STORE_IF).set(17, 33).word(Code.CALL);
        int thread = bench.enclave(0x8000, 256, 0, code);
        bench.call(9, 0, SHARED, 256);
        bench.enter(thread, 1, SHARED);
        bench.system(0x200, new Code().word(byThread ? STORE_IF : RESERVE));
        bench.house.setRegister(0, 5, SHARED);
        if (!byThread) {
            bench.house.run(1);
        }
        bench.call(6, thread, 0);
        bench.runThread();
        if (byThread) {
            bench.house.run(1);
        }
        return byThread ? bench.house.register(0, 8) : bench.house.inside(thread, 8);
    }

    private void controlKinds() {
        edges.terms(2, 14, "115, f 1, 2, 3, 5, 6, 7: control register bits 31 .. 20 (U); the number is x[a], for f "
            + "above 4 the field a: f 1, 5 it is written; 2, 6 the register's bits that are in it are set; 3, 7 "
            + "cleared; x[d] gets what it was.");
        for (int f : new int[] {1, 2, 3, 5, 6, 7}) {
            int number = f > 4 ? 5 : 10;
            int due = (f & 3) == 1 ? number : (f & 3) == 2 ? 12 | number : 12 & ~number;
            Steps steps = new Steps(Code.control(7, f, 5, 0x140)).control(0x140, 12).set(5, 10).run(1);
            edges.are("f " + f, "12 " + due, steps.x(7), steps.control(0x140));
            steps = new Steps(Code.control(7, f, 31, 0x140)).control(0x140, 0).set(31, -1).run(1);
            edges.is("f " + f + " with all", (f & 3) == 3 ? 0 : f > 4 ? 31 : -1, steps.control(0x140));
        }
        int word = Code.control(7, 4, 5, 0x140);
        edges.is("f 4", "2 " + word, new Steps(word).run(1).trap());
        edges.is("a number above 2,047", 1, new Steps(Code.NOTHING, Code.control(7, 2, 0, 0xc01)).run(2).x(7));
        edges.is("0xf14", 0, new Steps(Code.control(7, 2, 0, 0xf14)).set(7, 9).run(1).x(7));
        edges.is("what a write does not keep", 2, new Steps(Code.control(7, 1, 5, 0x144)).set(5, -1).run(1)
            .control(0x144));
    }

    private void controlWithoutWrite() {
        edges.terms(2, 14, "For 2, 3, 6, 7 with field a 0 nothing is written; else it is a write.");
        for (int f : new int[] {1, 2, 3, 5, 6, 7}) {
            boolean writes = (f & 3) == 1;
            int word = Code.control(7, f, 0, 0xf14);
            edges.is("f " + f + " of 0xf14 with field a 0", writes ? "2 " + word : "none", new Steps(word).run(1)
                .trap());
            word = Code.control(7, f, 5, 0xc01);
            edges.is("f " + f + " of 0xc01 by x5, which is 0", "2 " + word, new Steps(word).set(5, 0).run(1).trap());
            Steps steps = new Steps(Code.control(7, f, 0, 0x140)).control(0x140, 12).run(1);
            edges.are("f " + f + " of SCRATCH with field a 0", "12 " + (writes ? 0 : 12), steps.x(7),
                steps.control(0x140));
        }
    }

    private void calls() {
        edges.terms(2, 14, "f 0, with d 0 and a 0: bits 31 .. 20 being 0: a CALL (6), with a THREAD or in S; in U "
            + "exception 8.");
        Steps steps = new Steps(Code.CALL).set(17, 12).set(10, 65).run(1);
        edges.are("in S", "1 1 260", steps.x(10), steps.house.count(6), steps.pc());
        steps = new Steps(Code.CALL).set(17, 12).set(10, 65).from(Steps.AT, 0).run(1);
        edges.is("in U", "8 0, 0", steps.trap() + ", " + steps.house.count(6));
        Bench bench = new Bench(1);
        int thread = bench.enclave(0x8000, 256, 0, new Code().exit(4));
        bench.house.place(0, 0x200, 0);
        bench.enter(thread, 0, 0);
        edges.are("with a THREAD, the system being in U", "0 4", bench.house.register(0, 10),
            bench.house.register(0, 11));
        for (int bit = 7; bit < 32; bit++) {
            int word = Code.CALL | 1 << bit;
            // Bit 20 is exception 3, and bits 12 to 14 are the field f.
            if (bit != 20 && (bit < 12 || bit > 14)) {
                edges.is("with bit " + bit, "2 " + word, new Steps(word).set(17, 12).run(1).trap());
            }
        }
    }

    private void breaks() {
        edges.terms(2, 14, "1: exception 3.");
        for (int mode = 0; mode < 2; mode++) {
            edges.is("MODE " + mode, "3 256", new Steps(Code.BREAK).from(Steps.AT, mode).run(1).trap());
        }
        Bench bench = new Bench(1);
        bench.enter(bench.enclave(0x8000, 256, 0, new Code().word(Code.BREAK)), 0, 0);
        edges.are("with a THREAD", "3 3", bench.house.register(0, 10), bench.house.register(0, 11));
        for (int word : new int[] {Code.BREAK | 1 << 7, Code.BREAK | 1 << 15, 2 << 20 | 115}) {
            edges.is("nearly so", "2 " + word, new Steps(word).run(1).trap());
        }
    }

    private void leavingTraps() {
        edges.terms(2, 14, "258: in S: on at EPC, the MODE is PP, IE becomes PIE, PIE 1, PP 0.");
        int others = 1 << 18 | 1 << 19;
        int[][] given = {{0, 32, 0}, {32, 34, 0}, {256, 32, 1}, {2 | 256, 32, 1},
            {2 | 32 | 256 | others, 34 | others, 1}, {2, 32, 0}};
        for (int[] one : given) {
            Steps steps = new Steps(Code.LEAVE_TRAP).control(0x141, 0x600).control(0x100, one[0]).run(1);
            edges.are("STATUS " + one[0], one[1] + " " + one[2] + " 1536", steps.control(0x100), steps.house.count(12),
                steps.pc());
        }
        edges.is("EPC at the end of all", -4, new Steps(Code.LEAVE_TRAP).control(0x141, -1).run(1).pc());
    }

    private void waits() {
        edges.terms(2, 14, "261: in S: the hart WAITS. f 0, d 0 and g 9, a and b any: in S nothing.");
        Steps steps = new Steps(Code.WAIT).run(1);
        edges.are("WAITS, PC", "1 0 260", steps.house.count(10), (steps.house.count(11) - 1), steps.pc());
        for (int a : new int[] {0, 1, 31}) {
            for (int b : new int[] {0, 1, 31}) {
                steps = new Steps(Code.byRegister(115, 0, 0, a, b, 9)).run(1);
                edges.are("g 9, a " + a + ", b " + b, "none 260", steps.trap(), steps.pc());
            }
        }
        for (int word : new int[] {Code.byRegister(115, 1, 0, 0, 0, 9), Code.byRegister(115, 31, 0, 0, 0, 9),
            Code.byRegister(115, 0, 0, 0, 0, 8), Code.byRegister(115, 0, 0, 0, 0, 10), Code.WAIT | 1 << 15,
            Code.WAIT | 1 << 7}) {
            edges.is("nearly so", "2 " + word, new Steps(word).run(1).trap());
        }
    }

    private void illegalElsewhere() {
        edges.terms(2, 14, "(258, 261 and this are ILLEGAL elsewhere.)");
        for (int word : new int[] {Code.LEAVE_TRAP, Code.WAIT, Code.byRegister(115, 0, 0, 0, 0, 9),
            Code.byRegister(115, 0, 0, 31, 31, 9)}) {
            Steps steps = new Steps(word).control(0x100, 256).from(Steps.AT, 0).run(1);
            edges.is("in U", "2 " + word + ", 0", steps.trap() + ", " + steps.house.count(10));
            Bench bench = new Bench(1);
            int thread = bench.enclave(0x8000, 256, 0, new Code().word(word));
            bench.enter(thread, 0, 0);
            edges.are("with a THREAD", "5 3 2 0", bench.house.thread(thread, 0), bench.house.register(0, 10),
                bench.house.register(0, 11), bench.house.count(10));
        }
    }
}
