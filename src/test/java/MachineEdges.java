/** The document's Terms up to section 1, THE MACHINE. */
final class MachineEdges {
    private static final int MIN = Integer.MIN_VALUE;
    private static final int MAX = Integer.MAX_VALUE;
    private static final int ADD = Code.byRegister(51, 7, 0, 5, 6, 0);
    private static final int[] NO_HARTS = {-1, 2, MIN, MAX};

    private final Edges edges;

    private MachineEdges(Edges itsEdges) {
        edges = itsEdges;
    }

    static void all(Edges edges) {
        MachineEdges of = new MachineEdges(edges);
        of.numbers();
        of.lowestByteFirst();
        of.memory();
        of.harts();
        of.registers();
        of.threadInstead();
        of.orderOfARound();
        of.offByHart0();
        of.offByHart1();
        of.callsWhenOff();
        of.waiting();
        of.dueIsAll();
        of.slices();
        of.sliceCountsAllSteps();
        of.pcGoesOn();
        of.exceptionDoesNothing();
        of.orderOfInterrupts();
        of.dueByMode();
    }

    private void numbers() {
        edges.terms(0, 14, "NUMBERS have 32 bits, two's complement; U: as without sign.");
        edges.is("the greatest and 1", MIN, new Steps(ADD).set(5, MAX).set(6, 1).run(1).x(7));
        edges.is("the least and -1", MAX, new Steps(ADD).set(5, MIN).set(6, -1).run(1).x(7));
        edges.is("-1 and 1", 0, new Steps(ADD).set(5, -1).set(6, 1).run(1).x(7));
        int lessU = Code.byRegister(51, 7, 3, 5, 6, 0);
        edges.is("the greatest is less U than the least", 1, new Steps(lessU).set(5, MAX).set(6, MIN).run(1).x(7));
        edges.is("-1 is not less U than 0", 0, new Steps(lessU).set(5, -1).set(6, 0).run(1).x(7));
        EnclaveHouse house = new EnclaveHouse(1);
        house.poke(0, MIN, MAX, -1, 0, 1);
        edges.are("words keep their sign", MIN + " " + MAX + " -1", house.word(0), house.word(4), house.word(8));
    }

    private void lowestByteFirst() {
        edges.terms(0, 3, "In MEMORY, and wherever bytes are told of a number, its lowest byte comes first, if it is "
            + "not said otherwise.");
        int[] due = {0x01, 0x02, 0x03, -124};
        for (int i = 0; i < 4; i++) {
            Steps steps = new Steps(Code.byNumber(3, 7, 0, 5, i)).at(0x400, 0x84030201).set(5, 0x400).run(1);
            edges.is("byte " + i, due[i], steps.x(7));
        }
        EnclaveHouse house = new EnclaveHouse(1);
        house.poke(0x400, 0x84030201, 0, 0, 0, 0);
        edges.is("digest of its first byte", Bench.word(Bench.sha(new byte[] {1}), 0), house.digest(0x400, 1, 0));
        house.call(0, 14, 1, 0, 0x400, 0);
        house.run(5);
        edges.are("on THE DISK", "1 132", house.disk(0, 0, -1), house.disk(0, 3, -1));
    }

    private void memory() {
        edges.terms(1, 4, "1 THE MACHINE. MEMORY: bytes 0 .. 131,071, all 0 at first; a WORD is four of them from a "
            + "multiple of 4 on.");
        EnclaveHouse house = new EnclaveHouse(1);
        int zeros = Bench.word(Bench.sha(new byte[4096]), 3);
        for (int place = 0; place < 131072; place += 4096) {
            edges.is("0 at first from " + place, zeros, house.digest(place, 4096, 3));
        }
        house.poke(131052, 1, 2, 3, 4, -5);
        house.poke(0, 6, 7, 8, 9, 10);
        edges.are("the first and the last word", "6 -5", house.word(0), house.word(131068));
        for (int place : new int[] {-1, -4, 1, 2, 3, 131069, 131070, 131071, 131072, 131076, MIN, MAX, MAX - 3}) {
            edges.are("no word at " + place, "0 0", house.word(place), house.inner(place));
        }
        int store = Code.storing(0, 5, 6, 0);
        edges.is("the last byte", 0x77000000, new Steps(store).set(5, 131071).set(6, 0x77).run(1).house.word(131068));
        edges.is("behind it", "7 131072", new Steps(store).set(5, 131072).run(1).trap());
        edges.is("ahead of the first", "7 -1", new Steps(store).set(5, -1).run(1).trap());
    }

    private void harts() {
        edges.terms(1, 10, "Two HARTS, 0 and 1.");
        EnclaveHouse house = new EnclaveHouse(1);
        for (int hart = 0; hart < 2; hart++) {
            house.setRegister(hart, 5, 50 + hart);
            edges.are("hart " + hart, "0 0", house.place(hart, 64 + 4 * hart, hart),
                house.setControl(hart, 0x140, 7 + hart));
        }
        for (int hart = 0; hart < 2; hart++) {
            edges.are("what hart " + hart + " has", (50 + hart) + " " + (64 + 4 * hart) + " " + hart + " "
                + (7 + hart), house.register(hart, 5), house.count(14 + hart), house.count(12 + hart),
                house.control(hart, 0x140));
        }
        for (int hart : NO_HARTS) {
            edges.are("no hart " + hart, "0 0 -1 -1 0 -1 -1", house.setRegister(hart, 1, 1), house.register(hart, 1),
                house.place(hart, 0, 0), house.setControl(hart, 0x140, 1), house.control(hart, 0x140),
                house.call(hart, 15, 0, 0, 0, 0), house.entry(hart, 0, 0));
        }
    }

    private void registers() {
        edges.terms(1, 14, "Each has, of THE SYSTEM: registers x0 (always 0) to x31, the PC, a MODE (0 U, 1 S), and "
            + "control registers (3).");
        Steps steps = new Steps(Code.byNumber(19, 0, 0, 0, 5), Code.byNumber(19, 31, 0, 0, 9));
        steps.house.setRegister(0, 0, 3);
        edges.is("x0 by setRegister", 0, steps.x(0));
        steps.run(2);
        edges.are("x0 by an instruction, and x31", "0 9", steps.x(0), steps.x(31));
        edges.is("x32 and x-1", 0, steps.house.register(0, 32) | steps.house.register(0, -1));
        edges.are("MODE of both at first", "1 1", new EnclaveHouse(1).count(12), new EnclaveHouse(1).count(13));
    }

    private void threadInstead() {
        edges.terms(1, 14, "A THREAD of an enclave (5) may RUN on a hart instead; it has registers and a PC of its "
            + "own (what the system has there stays meanwhile).");
        Bench bench = new Bench(1);
        int thread = bench.enclave(0x8000, 256, 0, new Code().set(8, 5).word(Code.jumping(0, 0)));
        bench.house.setRegister(0, 8, 77);
        bench.house.place(0, 0x200, 0);
        bench.call(5, thread, 1, 2);
        bench.house.run(5);
        edges.are("the THREAD's x8 and PC", "5 32776", bench.house.inside(thread, 8), bench.house.inside(thread, 32));
        edges.are("the system's x8, PC, MODE", "77 512 0", bench.house.register(0, 8), bench.house.count(14),
            bench.house.count(12));
        bench.house.setRegister(0, 8, 78);
        bench.house.place(0, 0x300, 1);
        bench.house.setControl(0, 0x140, 4);
        edges.are("they can be set meanwhile", "78 768 1 4", bench.house.register(0, 8), bench.house.count(14),
            bench.house.count(12), bench.house.control(0, 0x140));
        edges.are("and the THREAD runs on", "5 32776 0", bench.house.inside(thread, 8), bench.house.inside(thread, 32),
            bench.house.count(8));
    }

    /** Hart 0 and hart 1 store and load one word; the DMA comes behind both, and TIME behind that. */
    private void orderOfARound() {
        edges.terms(1, 14, "A ROUND: hart 0 makes a STEP, then hart 1 does; then DMA (8); then TIME is one more.");
        for (int storing = 0; storing < 2; storing++) {
            EnclaveHouse house = new EnclaveHouse(1);
            house.poke(0x100, Code.storing(2, 5, 6, 0), 0, 0, 0, 0);
            house.poke(0x200, Code.byNumber(3, 7, 2, 5, 0), 0, 0, 0, 0);
            for (int hart = 0; hart < 2; hart++) {
                house.place(hart, hart == storing ? 0x100 : 0x200, 1);
                house.setRegister(hart, 5, 0x400);
                house.setRegister(hart, 6, 9);
            }
            house.run(1);
            edges.is("hart " + storing + " stores, the other one loads", storing == 0 ? 9 : 0,
                house.register(1 - storing, 7));
        }
        EnclaveHouse house = new EnclaveHouse(1);
        house.disk(0, 0, 9);
        house.poke(0x100, Code.NOTHING, Code.NOTHING, Code.NOTHING, Code.NOTHING, Code.byNumber(3, 7, 2, 5, 0));
        house.poke(0x114, Code.byNumber(3, 8, 2, 5, 0), Code.control(9, 2, 0, 0xc01), 0, 0, 0);
        for (int hart = 0; hart < 2; hart++) {
            house.place(hart, 0x100, 1);
            house.setRegister(hart, 5, 0x400);
        }
        house.call(0, 14, 0, 0, 0x400, 0);
        house.run(5);
        edges.is("TIME", 5, house.count(0));
        house.run(2);
        for (int hart = 0; hart < 2; hart++) {
            edges.are("in the DMA's round, in the next, and TIME in the one behind", "0 9 6", house.register(hart, 7),
                house.register(hart, 8), house.register(hart, 9));
        }
    }

    /** A DMA that would be done at the end of the round in which hart 'off' puts the machine OFF. */
    private EnclaveHouse goingOff(int off) {
        EnclaveHouse house = new EnclaveHouse(1);
        house.disk(0, 0, 9);
        house.call(0, 14, 0, 0, 0x400, 0);
        for (int hart = 0; hart < 2; hart++) {
            int last = hart == off ? Code.CALL : Code.NOTHING;
            house.poke(0x100 + 64 * hart, Code.NOTHING, Code.NOTHING, Code.NOTHING, Code.NOTHING, last);
            house.poke(0x114 + 64 * hart, Code.NOTHING, Code.NOTHING, 0, 0, 0);
            house.place(hart, 0x100 + 64 * hart, 1);
            house.setRegister(hart, 17, 18);
            house.setRegister(hart, 10, 55);
        }
        return house;
    }

    private void offByHart0() {
        edges.terms(1, 14, "When the machine is OFF nothing of this comes any more (a round in which it goes OFF "
            + "ends at once), ");
        EnclaveHouse house = goingOff(0);
        edges.is("rounds", 5, house.run(7));
        edges.are("OFF, TIME", "1 4", house.count(1), house.count(0));
        edges.are("hart 0's answer and PC", "0 276", house.register(0, 10), house.count(14));
        edges.is("hart 1 made no step", 0x140 + 16, house.count(15));
        edges.are("the DMA waits", "1 0", house.count(7), house.word(0x400));
        edges.is("no round", 0, house.run(2000));
        edges.are("TIME, PC of hart 1, DMA", "4 336 1", house.count(0), house.count(15), house.count(7));
    }

    private void offByHart1() {
        edges.terms(1, 14, "(a round in which it goes OFF ends at once)");
        EnclaveHouse house = goingOff(1);
        edges.is("rounds", 5, house.run(7));
        edges.are("OFF, TIME", "1 4", house.count(1), house.count(0));
        edges.is("hart 0 made its step", 0x114, house.count(14));
        edges.is("hart 1's PC", 0x154, house.count(15));
        edges.are("the DMA waits", "1 0", house.count(7), house.word(0x400));
    }

    private void callsWhenOff() {
        edges.terms(1, 13, "and call() is BAD; all other calls are as ever.");
        Bench bench = new Bench(1);
        EnclaveHouse house = bench.house;
        int thread = bench.enclave(0x8000, 256, 1, new Code().exit(0));
        edges.is("OFF", 0, bench.call(18));
        for (int f = 0; f < 23; f++) {
            edges.is("call " + f, -1, bench.call(f, f == 5 ? thread : 0, 0, 0, 0));
        }
        long before = house.outside();
        edges.are("poke, word, inner", "0 7 8", house.poke(0x500, 7, 8, 0, 0, 0), house.word(0x500),
            house.inner(0x504));
        edges.are("secret", "0 3", house.secret(0, 255, 3), house.secret(0, 255, 0));
        edges.are("registers", "0 4", house.setRegister(1, 3, 4), house.register(1, 3));
        edges.are("place and control", "0 0 5", house.place(0, 8, 0), house.setControl(0, 0x140, 5),
            house.control(0, 0x140));
        edges.are("rounds", "0 0 -1 -1", house.run(0), house.run(1), house.run(-1), house.run(2001));
        edges.are("keys, panel, console", "0 -1 -1", house.type(1), house.panel(0), house.console(0));
        edges.are("the LINE", "false true", house.line(true), house.line(false));
        edges.are("enclave, thread, region, entry, event", "2 1 1 32768 0", house.enclave(0, 0), house.thread(0, 0),
            house.region(0, 0), house.entry(0, 0, 0), house.event(0, 0));
        edges.are("disk", "0 6", house.disk(0, 0, 6), house.disk(0, 0, -1));
        edges.are("digest, genuine", Bench.word(Bench.sha(), 0) + " false", house.digest(0, 0, 0), house.genuine(0));
        edges.is("outside is another", false, before == house.outside());
        edges.are("boot, and it is not OFF", "1 0 3", house.boot(0), house.count(1), house.run(3));
    }

    private void waiting() {
        edges.terms(1, 14, "A STEP of a hart: 1. If it WAITS, and none of its interrupts is PENDING and ENABLED, "
            + "that is all; else it waits no more.");
        for (int bit : new int[] {1, 5, 9}) {
            Steps steps = new Steps(Code.WAIT, Code.NOTHING, Code.NOTHING).run(3);
            edges.are("it waits behind its word", "1 260", steps.house.count(10), steps.pc());
            steps.control(0x104, 546 & ~(1 << bit));
            pend(steps.house, bit);
            steps.run(2);
            edges.are(bit + " PENDING and others ENABLED", "1 260", steps.house.count(10), steps.pc());
            steps.control(0x104, 1 << bit).run(1);
            edges.are(bit + " PENDING and ENABLED", "0 264", steps.house.count(10), steps.pc());
            steps = new Steps(Code.WAIT, Code.NOTHING).control(0x104, 1 << bit).run(3);
            edges.are(bit + " ENABLED alone", "1 260", steps.house.count(10), steps.pc());
        }
        Steps other = new Steps(Code.WAIT, Code.NOTHING).control(0x104, 546).run(2);
        other.house.setControl(1, 0x144, 2);
        other.house.setControl(1, 0x14d, 0);
        edges.is("the other hart's interrupts", 1, other.run(2).house.count(10));
        Steps timer = new Steps(Code.WAIT, Code.NOTHING).control(0x104, 32).control(0x14d, 4).run(4);
        edges.are("TIME is 4 now, but it made no STEP since", "4 1", timer.house.count(0), timer.house.count(10));
        edges.are("the next one", "0 264", timer.run(1).house.count(10), timer.pc());
    }

    /** Makes an interrupt of hart 0 PENDING. */
    private static void pend(EnclaveHouse house, int bit) {
        if (bit == 1) {
            house.setControl(0, 0x144, 2);
        } else if (bit == 5) {
            house.setControl(0, 0x14d, 0);
        } else {
            house.line(true);
        }
    }

    private void dueIsAll() {
        edges.terms(1, 14, "2. If an interrupt is DUE: with a THREAD: it is INTERRUPTED (5); else a TRAP (3); that "
            + "is all.");
        Steps steps = new Steps(Code.byNumber(19, 7, 0, 7, 1)).at(Steps.TRAPPED, Code.byNumber(19, 8, 0, 8, 1));
        steps.control(0x100, 2).control(0x104, 2).control(0x144, 2).run(1);
        edges.is("a TRAP and no word done", (1 << 31 | 1) + " 0, 0 0", steps.trap() + ", " + steps.x(7) + " "
            + steps.x(8));
        edges.is("then the word at TVEC", 1, steps.run(1).x(8));
        Bench bench = new Bench(1);
        int thread = bench.enclave(0x8000, 256, 0, new Code().set(8, 4));
        bench.house.setControl(0, 0x104, 2);
        bench.house.setControl(0, 0x144, 2);
        bench.house.setControl(0, 0x100, 0);
        bench.call(5, thread, 0, 0);
        bench.house.run(1);
        edges.are("INTERRUPTED and no word done", "3 32768 0", bench.house.thread(thread, 0),
            bench.house.inside(thread, 32), bench.house.inside(thread, 8));
        edges.are("the system made no step, and no TRAP came", "0 0 0", bench.house.count(14),
            bench.house.control(0, 0x141), bench.house.control(0, 0x142));
    }

    private static Bench counting(int slice) {
        Bench bench = new Bench(1);
        bench.enclave(0x8000, 256, 0, new Code().word(Code.byNumber(19, 8, 0, 8, 1)).word(Code.byNumber(19, 8, 0, 8, 1))
            .word(Code.jumping(0, -8)));
        bench.call(19, slice);
        bench.call(5, 0, 0, 0);
        return bench;
    }

    private void slices() {
        edges.terms(1, 14, "With a THREAD, if none is: it is INTERRUPTED, and that is all, also if the SLICE that "
            + "the hart had when it began to run is above 0, and it did 3. so many times since.");
        for (int slice : new int[] {1, 2, 5}) {
            Bench bench = counting(slice);
            bench.house.run(slice);
            edges.is("slice " + slice + ": so many steps", 2, bench.house.thread(0, 0));
            int x8 = bench.house.inside(0, 8);
            bench.house.run(1);
            edges.are("slice " + slice + ": INTERRUPTED by it", "3 4 0 0", bench.house.thread(0, 0),
                bench.house.register(0, 10), bench.house.register(0, 11), bench.house.register(0, 12));
            edges.is("slice " + slice + ": no word was done", x8, bench.house.inside(0, 8));
            bench.call(6, 0, 0);
            bench.house.run(slice);
            edges.is("slice " + slice + ": RESUMED it has as many again", 2, bench.house.thread(0, 0));
            bench.house.run(1);
            edges.is("slice " + slice + ": and no more", 3, bench.house.thread(0, 0));
        }
        Bench bench = counting(0);
        bench.house.run(2000);
        edges.is("slice 0 is none", 2, bench.house.thread(0, 0));
        bench = counting(2);
        bench.house.setControl(0, 0x104, 2);
        bench.house.run(2);
        bench.house.setControl(0, 0x144, 2);
        bench.house.run(1);
        edges.is("an interrupt that is DUE comes first", 2, bench.house.register(0, 10));
        bench = counting(3);
        bench.house.call(1, 19, 1, 0, 0, 0);
        bench.house.run(3);
        edges.is("the other hart's slice does not count", 2, bench.house.thread(0, 0));
        bench.house.run(1);
        bench.call(19, 1);
        bench.house.call(1, 6, 0, 0, 0, 0);
        bench.house.run(1);
        edges.is("on hart 1 its slice counts", 2, bench.house.thread(0, 0));
        bench.house.run(1);
        edges.are("on hart 1 its slice ends", "3 4", bench.house.thread(0, 0), bench.house.register(1, 10));
    }

    private void sliceCountsAllSteps() {
        edges.terms(1, 14, "and it did 3. so many times since.");
        Bench bench = new Bench(1);
        // A CALL, an exception that is HANDLED, and the handler's words count as well.
        Code code = new Code().call(43, 0x8020, 0).word(0).word(Code.jumping(0, 0));
        int thread = bench.enclave(0x8000, 256, 0, code);
        bench.call(19, 9);
        bench.call(5, thread, 0, 0);
        bench.house.run(9);
        edges.are("nine steps", "2 32800", bench.house.thread(thread, 0), bench.house.inside(thread, 32));
        bench.house.run(1);
        edges.is("the tenth", 3, bench.house.thread(thread, 0));
    }

    private void pcGoesOn() {
        edges.terms(1, 14, "3. The word at the PC is fetched, and done (2); the PC goes on by 4, if nothing else is "
            + "said.");
        Steps steps = new Steps(Code.NOTHING, Code.NOTHING).run(2);
        edges.is("two words", Steps.AT + 8, steps.pc());
        steps = new Steps().at(131052, 0, 0, 0, 0, Code.NOTHING).from(131068, 1).run(1);
        edges.is("the last word of MEMORY", 131072, steps.pc());
        edges.is("none behind it", "1 131072", steps.run(1).trap());
        // The address 0xfffffffc is mapped to the end of the page at 0x5000.
        steps = new Steps().paged().at(0x5fec, 0, 0, 0, 0, Code.NOTHING);
        steps.at(Steps.FIRST_TABLE + 4092 - 16, 0, 0, 0, 0, 0x6000 >> 2 | 1);
        steps.at(0x6fec, 0, 0, 0, 0, Steps.leaf(0x5000, Steps.ALL_OF_S));
        edges.is("it wraps around", 0, steps.from(-4, 1).run(1).pc());
    }

    private void exceptionDoesNothing() {
        edges.terms(1, 14, "If that is an EXCEPTION, what it would have done is not done; with a THREAD that is "
            + "HANDLED, or a FAULT (5), else a TRAP.");
        int[] words = {
            Code.byNumber(3, 7, 2, 5, 1), Code.byNumber(3, 7, 4, 5, -1), Code.inMemory(0, 7, 5, 6) | 1 << 7,
                Code.jumping(7, 2),
            Code.byNumber(103, 7, 0, 5, 2), Code.inMemory(2, 7, 6, 0), Code.control(7, 1, 6, 0xc01),
            Code.control(7, 1, 6, 0x101)
        };
        String[] due = {"4 1", "5 -1", "6 2", "0 258", "0 2", "4 2", "2 " + words[6], "2 " + words[7]};
        for (int i = 0; i < words.length; i++) {
            Steps steps = new Steps(words[i]).set(5, i == 2 ? 2 : 0).set(6, 2).set(7, 77).run(1);
            edges.is("TRAP " + i, due[i], steps.trap());
            edges.is("x7 stays, " + i, 77, steps.x(7));
            edges.is("EPC, " + i, Steps.AT, steps.control(0x141));
        }
        Bench bench = new Bench(1);
        int thread = bench.enclave(0x8000, 256, 0, new Code().word(Code.jumping(7, 2)));
        bench.enter(thread, 0, 0);
        edges.are("a FAULT", "5 0 3 0", bench.house.thread(thread, 0), bench.house.inside(thread, 7),
            bench.house.register(0, 10), bench.house.register(0, 11));
        bench = new Bench(1);
        thread = bench.enclave(0x8000, 256, 0, new Code().call(43, 0x8040, 0).word(Code.jumping(7, 2)));
        bench.call(5, thread, 0, 0);
        bench.house.run(8);
        edges.are("HANDLED", "2 0 32832", bench.house.thread(thread, 0), bench.house.inside(thread, 7),
            bench.house.inside(thread, 32));
    }

    private void orderOfInterrupts() {
        edges.terms(1, 14, "INTERRUPTS of a hart: 9 (from outside), 1 (a signal), 5 (its timer), the first in this "
            + "order.");
        int[][] given = {{546, 9}, {34, 1}, {32, 5}, {544, 9}, {514, 9}, {2, 1}, {512, 9}};
        for (int[] one : given) {
            Steps steps = new Steps(Code.NOTHING).control(0x104, one[0]).control(0x144, 2).control(0x14d, 0)
                .control(0x100, 2);
            steps.house.line(true);
            edges.is("of ENABLED " + one[0], (1 << 31 | one[1]) + " 0", steps.run(1).trap());
        }
    }

    private void dueByMode() {
        edges.terms(1, 14, "DUE is one that is PENDING and ENABLED: with a THREAD and in U always, in S if IE of "
            + "STATUS is 1.");
        for (int mode = 0; mode < 2; mode++) {
            for (int status : new int[] {0, 2, ~2}) {
                Steps steps = new Steps(Code.NOTHING).control(0x104, 32).control(0x14d, 0).control(0x100, status);
                boolean due = mode == 0 || (status & 2) != 0;
                edges.is("MODE " + mode + ", STATUS " + status, due ? (1 << 31 | 5) + " 0" : "none",
                    steps.from(Steps.AT, mode).run(1).trap());
            }
            for (int[] one : new int[][] {{0, 2}, {2, 0}}) {
                Steps steps = new Steps(Code.NOTHING).control(0x104, one[0]).control(0x144, one[1]).control(0x100, 2);
                edges.is("MODE " + mode + ", ENABLED " + one[0] + ", PENDING " + one[1], "none",
                    steps.from(Steps.AT, mode).run(1).trap());
            }
        }
        for (int mode = 0; mode < 2; mode++) {
            Bench bench = counting(0);
            bench.house.place(0, 0, mode);
            bench.house.setControl(0, 0x104, 2);
            bench.house.run(1);
            edges.is("with a THREAD, not PENDING", 0, bench.house.count(8));
            bench.house.setControl(0, 0x144, 2);
            bench.house.run(1);
            edges.is("with a THREAD, whatever IE is", -1, bench.house.count(8));
        }
    }
}
