/** The document's promises 1 to 14, sentence by sentence. */
final class PromiseEdges {
    private static final int MIN = Integer.MIN_VALUE;
    private static final int MAX = Integer.MAX_VALUE;
    private static final int BASE = 0x8000;
    private static final int[] NO_HARTS = {-1, 2, MIN, MAX};

    private final Edges edges;

    private PromiseEdges(Edges itsEdges) {
        edges = itsEdges;
    }

    static void all(Edges edges) {
        PromiseEdges of = new PromiseEdges(edges);
        of.newObject();
        of.newDisk();
        of.boot();
        of.bootVersions();
        of.behindBoot();
        of.poke();
        of.pokeRefused();
        of.word();
        of.inner();
        of.innerOfNone();
        of.secret();
        of.secretKeepsReservations();
        of.secretRefused();
        of.setRegister();
        of.noRegister();
        of.register();
        of.inside();
        of.noInside();
        of.place();
        of.placeRefused();
        of.setControl();
        of.setControlRefused();
        of.control();
        of.call();
        of.callRefused();
        of.run();
        of.runRefused();
    }

    private void newObject() {
        edges.promise(1, "A machine with a seed, as behind boot(0);");
        for (int seed : new int[] {0, 1, -1, MIN, MAX}) {
            EnclaveHouse house = new EnclaveHouse(seed);
            EnclaveHouse booted = new EnclaveHouse(seed);
            edges.is("no enclaves before", 0, booted.boot(0));
            edges.is("all that shows", Views.all(booted), Views.all(house));
            edges.is("the REPORT of one is that of the other", reportOf(seed, false), reportOf(seed, true));
        }
        edges.is("the seed counts", false, reportOf(1, false).equals(reportOf(2, false)));
    }

    private static String reportOf(int seed, boolean boots) {
        Bench bench = new Bench(seed);
        if (boots) {
            bench.house.boot(0);
        }
        Agent agent = new Agent(bench, BASE);
        agent.ask(34, BASE + 0x300, BASE + 0x200);
        return Bench.hex(agent.bytes(0x200, 128));
    }

    private void newDisk() {
        edges.promise(1, "THE DISK is 0, no MEASUREMENT has a COUNTER.");
        EnclaveHouse house = new EnclaveHouse(7);
        int all = 0;
        for (int i = 0; i < 400; i++) {
            all |= house.disk(i % 32, 255 - i / 2, -1);
        }
        edges.is("bytes of THE DISK", 0, all);
        edges.is("COUNTERS", 0, house.count(16));
        Bench bench = new Bench(7);
        new Agent(bench, BASE).ask(42);
        edges.are("another object has its own", "1 1", bench.house.count(16), new Agent(new Bench(7), BASE).ask(42));
    }

    private void boot() {
        edges.promise(2, "All is as at first, with a version, but for THE DISK and COUNTERS: how many enclaves there "
            + "were.");
        Bench bench = ThreadEdges.twelveThreads();
        EnclaveHouse house = bench.house;
        house.disk(3, 4, 99);
        edges.is("six enclaves", 6, house.boot(0));
        edges.is("no THREADS, no REGIONS", 0, house.count(3) + house.count(4));
        edges.is("then none", 0, house.boot(0));
        edges.is("THE DISK stays", 99, house.disk(3, 4, 0));
        bench.call(1, BASE, 256);
        bench.call(8, 0);
        bench.call(1, BASE, 256);
        bench.call(4, 0, 0);
        bench.call(1, 0x9000, 256);
        bench.call(7, 0);
        edges.is("STOPPED and LOADING ones count, DESTROYED ones do not", 2, house.boot(0));
        edges.is("all that shows", Views.all(new EnclaveHouse(1)), Views.all(house));
        Agent agent = new Agent(bench, BASE);
        agent.ask(42);
        agent.ask(42);
        house.boot(0);
        edges.are("COUNTERS stay", "1 3", house.count(16), new Agent(bench, BASE).ask(42));
    }

    private void bootVersions() {
        edges.promise(2, "All is as at first, with a version, ");
        Bench bench = new Bench(1);
        for (int version : new int[] {1, -1, MIN, MAX, 0}) {
            bench.house.boot(version);
            Agent agent = new Agent(bench, BASE);
            agent.ask(35, 0, BASE + 0x200);
            byte[] due = Bench.mac(Bench.root(1, version), Bench.numbers(6), agent.measurement(0), Bench.numbers(0));
            edges.is("version " + version, Bench.hex(due), Bench.hex(agent.bytes(0x200, 32)));
            bench = new Bench(1);
        }
    }

    /** All that there can be is there, on both harts, when the machine is booted. */
    private void behindBoot() {
        edges.promise(2, "(No EVENTS, TIME 0, both harts in S with the PC 0, the LINE off.)");
        Bench bench = new Bench(1);
        EnclaveHouse house = bench.house;
        Agent agent = new Agent(bench, BASE, 0, 1);
        house.type(9);
        agent.ask(45);
        agent.ask(47, 65);
        agent.ask(49, BASE);
        agent.ask(36, BASE + 0x200, 4);
        house.type(1);
        bench.call(9, 0, 0xa000, 256);
        bench.call(20, 0, 0xb000, 256);
        bench.call(14, 0, 0, BASE);
        house.run(5);
        bench.call(14, 0, 0, 0x400);
        bench.call(12, 65);
        bench.call(19, 7);
        house.call(1, 19, 8, 0, 0, 0);
        for (int hart = 0; hart < 2; hart++) {
            for (int n = 1; n < 32; n++) {
                house.setRegister(hart, n, 100 + n);
            }
            for (int number : new int[] {0x100, 0x105, 0x140, 0x141, 0x142, 0x143, 0x144, 0x14d, 0x180, 0x104}) {
                house.setControl(hart, number, 0x7ffffffe);
            }
            house.place(hart, 0x600, 0);
        }
        house.poke(131052, 1, 2, 3, 4, 5);
        house.poke(0x600, Code.WAIT, 0, 0, 0, 0);
        house.setControl(1, 0x104, 0);
        house.place(1, 0x600, 1);
        house.run(1);
        house.setControl(1, 0x104, -1);
        bench.call(6, agent.thread, 0);
        house.line(true);
        house.call(1, 18, 0, 0, 0, 0);
        edges.are("before: OFF, a THREAD on hart 0, DMAs, the PATH", "1 0 1 1 1 0", house.count(1), house.count(8),
            house.count(7), house.count(17), house.count(18), house.count(20));
        edges.are("before: hart 1 WAITS, keys", "1 1 1", house.count(11), house.count(19), house.count(21));
        edges.is("one enclave", 1, house.boot(0));
        edges.are("no EVENTS", "0 0", house.count(5), house.event(0, 0));
        edges.are("neither WAITS", "0 0", house.count(10), house.count(11));
        edges.are("TIME, MODES, PCs", "0 1 1 0 0", house.count(0), house.count(12), house.count(13), house.count(14),
            house.count(15));
        edges.is("the LINE", false, house.line(false));
        edges.is("all that shows", Views.all(new EnclaveHouse(1)), Views.all(house));
        edges.are("panel and console", "-1 -1", house.panel(0), house.console(0));
        edges.is("KEYS", 256, bench.call(21));
        Agent again = new Agent(bench, BASE);
        again.ask(34, BASE + 0x300, BASE + 0x200);
        edges.is("the RECORD", Bench.hex(new byte[32]), Bench.hex(again.bytes(0x220, 32)));
        edges.are("GENERATION and asked", "1 0", house.enclave(0, 5), house.enclave(0, 7));
        Steps steps = new Steps(Code.inMemory(2, 7, 5, 0)).set(5, 0x400).run(1);
        steps.house.boot(0);
        steps.at(Steps.AT, Code.inMemory(3, 8, 5, 6)).from(Steps.AT, 1).set(5, 0x400).run(1);
        edges.is("no RESERVATION", 1, steps.x(8));
    }

    private void poke() {
        edges.promise(3, "Five words come to MEMORY, from a place on, as the system would store them (RESERVATIONS "
            + "are lost): 0.");
        for (int place : new int[] {0, 4, 0x7ff8, 131052}) {
            EnclaveHouse house = new EnclaveHouse(1);
            edges.is("poke at " + place, 0, house.poke(place, MIN, -1, 0, 7, MAX));
            edges.is("its words", MIN + " -1 0 7 " + MAX, words(house, place));
            edges.are("those beside it", "0 0", house.word(place - 4), house.word(place + 20));
        }
        for (int i = -1; i < 6; i++) {
            Steps steps = new Steps(Code.inMemory(2, 7, 5, 0), Code.inMemory(3, 8, 5, 6)).set(5, 0x400).run(1);
            steps.house.poke(0x400 - 4 * i, 0, 0, 0, 0, 0);
            edges.is("a RESERVATION of word " + i, i >= 0 && i < 5 ? 1 : 0, steps.run(1).x(8));
        }
    }

    private static String words(EnclaveHouse house, int place) {
        StringBuilder text = new StringBuilder();
        for (int i = 0; i < 5; i++) {
            text.append(i == 0 ? "" : " ").append(house.inner(place + 4 * i));
        }
        return text.toString();
    }

    private void pokeRefused() {
        edges.promise(3, "NONE, and none comes: the place is no multiple of 4, or a word is not OPEN.");
        EnclaveHouse house = new EnclaveHouse(1);
        long before = house.outside();
        int[] wrong = {1, 2, 3, 131056, 131060, 131068, 131072, 131053, -4, -16, -20, -1, MIN, MAX, MAX - 3, MAX - 19};
        for (int place : wrong) {
            edges.is("poke at " + place, -1, house.poke(place, 1, 2, 3, 4, 5));
        }
        edges.is("none came", before, house.outside());
        Bench bench = new Bench(1);
        bench.call(1, BASE, 256);
        before = bench.house.outside();
        for (int place = BASE - 16; place < BASE + 256; place += 4) {
            edges.is("poke at " + place, -1, bench.house.poke(place, 1, 2, 3, 4, 5));
        }
        edges.is("none came", before, bench.house.outside());
        edges.are("nor inside", "0 0", bench.house.inner(BASE), bench.house.inner(BASE + 252));
        edges.are("right ahead of it, and behind", "0 0", bench.house.poke(BASE - 20, 1, 2, 3, 4, 5),
            bench.house.poke(BASE + 256, 1, 2, 3, 4, 5));
    }

    private void word() {
        edges.promise(4, "The word at a place as the system may see it: 0 if it is not OPEN, or there is none.");
        Bench bench = new Bench(1);
        bench.house.poke(0, -1, MIN, MAX, 1, 2);
        bench.house.poke(131052, 3, 4, 5, 6, 7);
        edges.are("words", "-1 " + MIN + " " + MAX + " 7", bench.house.word(0), bench.house.word(4),
            bench.house.word(8), bench.house.word(131068));
        bench.call(1, BASE, 256);
        bench.house.secret(0, 0, 5);
        bench.house.secret(0, 255, 5);
        bench.house.poke(BASE + 256, 8, 0, 0, 0, 0);
        edges.are("not OPEN", "0 0 8", bench.house.word(BASE), bench.house.word(BASE + 252),
            bench.house.word(BASE + 256));
        for (int place : new int[] {1, 2, 3, 131069, 131072, 131076, -1, -4, MIN, MIN + 4, MAX, MAX - 3}) {
            edges.is("none at " + place, 0, bench.house.word(place));
        }
    }

    private void inner() {
        edges.promise(5, "The word at a place whatever it is;");
        Bench bench = new Bench(1);
        bench.house.poke(131052, 3, 4, 5, 6, 7);
        bench.call(1, BASE, 256);
        bench.house.secret(0, 3, 128);
        bench.house.secret(0, 252, 5);
        edges.are("of an enclave, and OPEN", MIN + " 5 7", bench.house.inner(BASE), bench.house.inner(BASE + 252),
            bench.house.inner(131068));
    }

    private void innerOfNone() {
        edges.promise(5, "0 if there is none. (The eye of who looks at the proof.)");
        EnclaveHouse house = new EnclaveHouse(1);
        house.poke(0, -1, -1, -1, -1, -1);
        house.poke(131052, -1, -1, -1, -1, -1);
        for (int place : new int[] {1, 2, 3, 131069, 131072, 131076, -1, -4, MIN, MIN + 4, MAX, MAX - 3}) {
            edges.is("none at " + place, 0, house.inner(place));
        }
    }

    private void secret() {
        edges.promise(6, "A byte (0 .. 255) of an enclave's PRIVATE REGION becomes another one, as if it had been so ");
        Bench bench = new Bench(1);
        bench.call(1, BASE, 256);
        bench.call(1, 0x9000, 512);
        for (int[] one : new int[][] {{0, 0, BASE}, {0, 255, BASE + 255}, {1, 0, 0x9000}, {1, 511, 0x91ff},
            {1, 258, 0x9102}}) {
            edges.is("it was 0", 0, bench.house.secret(one[0], one[1], 255));
            edges.is("it was 255", 255, bench.house.secret(one[0], one[1], 0));
            edges.is("it was 0 again", 0, bench.house.secret(one[0], one[1], 0x81));
            edges.is("the word, this byte alone", 0x81 << 8 * (one[1] & 3), bench.house.inner(one[2] & ~3));
        }
        byte[] due = Bench.sha(Bench.numbers(1, 256, 4, 0));
        bench.call(4, 0, 0);
        edges.is("the MEASUREMENT is as it was", Bench.word(due, 0), bench.call(16, 0, 0));
        edges.are("READY and STOPPED ones, too", "129 0 5", bench.house.secret(0, 0, 5), bench.call(7, 0),
            bench.house.secret(0, 0, 6));
    }

    private void secretKeepsReservations() {
        edges.promise(6, "(no RESERVATION is lost): what it was.");
        Bench bench = new Bench(1);
        Code code = new Code().set(5, BASE + 0x80).word(Code.inMemory(2, 7, 5, 0)).word(Code.inMemory(3, 8, 5, 5))
            .exit(0);
        int thread = bench.enclave(BASE, 256, 0, code);
        bench.call(5, thread, 0, 0);
        bench.house.run(3);
        for (int i = 0; i < 4; i++) {
            bench.house.secret(0, 0x80 + i, 9);
        }
        bench.house.run(1);
        edges.are("stored", "0 " + (BASE + 0x80), bench.house.inside(thread, 8), bench.house.inner(BASE + 0x80));
    }

    private void secretRefused() {
        edges.promise(6, "NONE: no such enclave, offset, byte.");
        Bench bench = new Bench(1);
        bench.call(1, BASE, 256);
        bench.call(1, 0x9000, 256);
        bench.call(8, 1);
        bench.house.secret(0, 5, 77);
        for (int enclave : new int[] {-1, 1, 2, 5, 6, MIN, MAX}) {
            edges.is("enclave " + enclave, -1, bench.house.secret(enclave, 5, 1));
        }
        for (int offset : new int[] {-1, 256, 257, MIN, MAX}) {
            edges.is("offset " + offset, -1, bench.house.secret(0, offset, 1));
        }
        for (int value : new int[] {-1, 256, MIN, MAX}) {
            edges.is("byte " + value, -1, bench.house.secret(0, 5, value));
        }
        edges.is("it stayed", 77, bench.house.secret(0, 5, 0));
        edges.are("beside it", "0 0", bench.house.inner(BASE - 4), bench.house.inner(BASE + 256));
    }

    private void setRegister() {
        edges.promise(7, "Register n of the system on a hart becomes v (x0 stays): what it was;");
        EnclaveHouse house = new EnclaveHouse(1);
        for (int hart = 0; hart < 2; hart++) {
            for (int n = 0; n < 32; n++) {
                edges.is("x" + n + " was", 0, house.setRegister(hart, n, MIN + n));
                edges.is("x" + n + " was", n == 0 ? 0 : MIN + n, house.setRegister(hart, n, MAX));
            }
            for (int n = 0; n < 32; n++) {
                edges.is("x" + n, n == 0 ? 0 : MAX, house.register(hart, n));
            }
        }
    }

    private void noRegister() {
        edges.promise(7, "0: there is none such.");
        EnclaveHouse house = new EnclaveHouse(1);
        for (int n = 1; n < 32; n++) {
            house.setRegister(0, n, 7);
            house.setRegister(1, n, 8);
        }
        long before = house.outside();
        for (int n : new int[] {-1, 32, 33, MIN, MAX}) {
            edges.are("x" + n, "0 0", house.setRegister(0, n, 5), house.setRegister(1, n, 5));
        }
        for (int hart : NO_HARTS) {
            edges.is("hart " + hart, 0, house.setRegister(hart, 1, 5));
        }
        edges.is("all as it was", before, house.outside());
    }

    private void register() {
        edges.promise(8, "That register; 0: there is none such.");
        EnclaveHouse house = new EnclaveHouse(1);
        for (int hart = 0; hart < 2; hart++) {
            for (int n : new int[] {0, 1, 30, 31}) {
                house.setRegister(hart, n, 100 * hart - n);
                edges.is("x" + n, n == 0 ? 0 : 100 * hart - n, house.register(hart, n));
            }
            for (int n : new int[] {-1, 32, MIN, MAX}) {
                edges.is("x" + n, 0, house.register(hart, n));
            }
        }
        for (int hart : NO_HARTS) {
            edges.is("hart " + hart, 0, house.register(hart, 31));
        }
    }

    private void inside() {
        edges.promise(9, "Register n of a THREAD, n = 32 its PC (all 0 before it is ENTERED first);");
        Bench bench = new Bench(1);
        int thread = bench.enclave(BASE, 256, 0, new Code().set(31, -31).set(1, MIN)
            .word(Code.byNumber(19, 0, 0, 0, 5)).word(Code.jumping(0, 0)));
        for (int n = 0; n < 33; n++) {
            edges.is("before it is ENTERED, " + n, 0, bench.house.inside(thread, n));
        }
        bench.call(5, thread, 10, 11);
        bench.house.run(5);
        edges.are("x0, x1, x31, PC", "0 " + MIN + " -31 " + (BASE + 20), bench.house.inside(thread, 0),
            bench.house.inside(thread, 1), bench.house.inside(thread, 31), bench.house.inside(thread, 32));
        bench = new Bench(1);
        thread = bench.enclave(BASE, 256, 0, new Code().set(31, -31).exit(5));
        bench.enter(thread, 0, 0);
        bench.call(7, 0);
        edges.is("of a STOPPED enclave", -31, bench.house.inside(thread, 31));
        bench.call(8, 0);
        bench.call(1, BASE, 256);
        bench.call(3, 0, 4, 16);
        edges.are("a new THREAD of that number", "0 0 0", bench.house.inside(thread, 31),
            bench.house.inside(thread, 32), bench.house.inside(thread, 2));
    }

    private void noInside() {
        edges.promise(9, "0: there is none such. (As inner().)");
        Bench bench = new Bench(1);
        int thread = bench.enclave(BASE, 256, 0, new Code().word(Code.jumping(0, 0)));
        bench.call(5, thread, 10, 11);
        for (int n : new int[] {-1, 33, 64, MIN, MAX}) {
            edges.is("register " + n, 0, bench.house.inside(thread, n));
        }
        for (int none : new int[] {-1, 1, 11, 12, MIN, MAX}) {
            edges.are("THREAD " + none, "0 0", bench.house.inside(none, 10), bench.house.inside(none, 32));
        }
        bench = new Bench(1);
        thread = bench.enclave(BASE, 256, 0, new Code().exit(5));
        bench.enter(thread, 3, 4);
        bench.call(7, 0);
        bench.call(8, 0);
        edges.are("one that is no more", "0 0", bench.house.inside(thread, 10), bench.house.inside(thread, 32));
    }

    private void place() {
        edges.promise(10, "The system's PC and MODE (0, 1) on a hart become others, and it WAITS no more: 0.");
        for (int hart = 0; hart < 2; hart++) {
            EnclaveHouse house = new EnclaveHouse(1);
            for (int pc : new int[] {0, 4, 131072, -4, MIN, MAX - 3}) {
                for (int mode = 0; mode < 2; mode++) {
                    edges.is("place", 0, house.place(hart, pc, mode));
                    edges.are("PC and MODE", pc + " " + mode, house.count(14 + hart), house.count(12 + hart));
                    edges.are("the other hart's", "0 1", house.count(15 - hart), house.count(13 - hart));
                }
            }
            house.poke(0x100, Code.WAIT, 0, 0, 0, 0);
            house.place(0, 0x100, 1);
            house.place(1, 0x100, 1);
            house.run(1);
            edges.are("both WAIT", "1 1", house.count(10), house.count(11));
            house.place(hart, 0x104, 1);
            edges.are("one WAITS no more", "0 1", house.count(10 + hart), house.count(11 - hart));
        }
    }

    private void placeRefused() {
        edges.promise(10, "NONE: no such hart, mode; the PC is no multiple of 4.");
        EnclaveHouse house = new EnclaveHouse(1);
        house.poke(0x100, Code.WAIT, 0, 0, 0, 0);
        house.place(0, 0x100, 1);
        house.place(1, 0x100, 1);
        house.run(1);
        long before = house.outside();
        for (int hart : NO_HARTS) {
            edges.is("hart " + hart, -1, house.place(hart, 0, 0));
        }
        for (int hart = 0; hart < 2; hart++) {
            for (int mode : new int[] {-1, 2, 3, MIN, MAX}) {
                edges.is("mode " + mode, -1, house.place(hart, 0, mode));
            }
            for (int pc : new int[] {1, 2, 3, -1, -2, MAX, MIN + 1}) {
                edges.is("PC " + pc, -1, house.place(hart, pc, 0));
            }
        }
        edges.are("all as it was, and they WAIT", "1 1 " + before, house.count(10), house.count(11), house.outside());
    }

    private void setControl() {
        edges.promise(11, "A control register of a hart is written as in S: 0.");
        EnclaveHouse house = new EnclaveHouse(1);
        for (int hart = 0; hart < 2; hart++) {
            house.place(hart, 0, 0);
            edges.are("in U as well", "0 " + (MIN + hart), house.setControl(hart, 0x140, MIN + hart),
                house.control(hart, 0x140));
            edges.are("what is not kept", "0 786722", house.setControl(hart, 0x100, -1), house.control(hart, 0x100));
        }
        Bench bench = new Bench(1);
        bench.call(5, bench.enclave(BASE, 256, 0, new Code().word(Code.jumping(0, 0))), 0, 0);
        edges.are("while a THREAD runs", "0 9", bench.house.setControl(0, 0x140, 9), bench.house.control(0, 0x140));
    }

    private void setControlRefused() {
        edges.promise(11, "NONE: no such hart; it would be ILLEGAL there.");
        EnclaveHouse house = new EnclaveHouse(1);
        long before = house.outside();
        for (int hart : NO_HARTS) {
            edges.is("hart " + hart, -1, house.setControl(hart, 0x140, 5));
        }
        for (int number : new int[] {0xc01, 0xf14, 0, 0x101, 0x106, 0x181, 0xfff, 0x1140, -1, MIN, MAX}) {
            edges.are("number " + number, "-1 -1", house.setControl(0, number, 5), house.setControl(1, number, 5));
        }
        edges.are("all as it was", "0 0 1 " + before, house.control(0, 0xc01), house.control(0, 0xf14),
            house.control(1, 0xf14), house.outside());
    }

    private void control() {
        edges.promise(12, "A control register of a hart, as in S; 0: there is none such.");
        EnclaveHouse house = new EnclaveHouse(1);
        house.setControl(0, 0x140, 7);
        house.setControl(1, 0x140, 8);
        house.run(3);
        for (int hart = 0; hart < 2; hart++) {
            house.place(hart, 0, 0);
            edges.are("SCRATCH, COMPARE, TIME, the hart, though in U", (7 + hart) + " -1 3 " + hart,
                house.control(hart, 0x140), house.control(hart, 0x14d), house.control(hart, 0xc01),
                house.control(hart, 0xf14));
            for (int number : new int[] {0, 0x101, 0x14c, 0x14e, 0xc00, 0xc02, 0x114d, 0x14d - 4096, -1, MIN, MAX}) {
                edges.is("number " + number, 0, house.control(hart, number));
            }
        }
        for (int hart : NO_HARTS) {
            edges.are("hart " + hart, "0 0", house.control(hart, 0x14d), house.control(hart, 0xc01));
        }
    }

    private void call() {
        edges.promise(13, "A CALL of the system on a hart, from outside: x17 is f; p, q, r, s are not put into "
            + "registers; the PC stays: the answer (of 5 and 6, if they are not refused, the THREAD).");
        for (int hart = 0; hart < 2; hart++) {
            for (int mode = 0; mode < 2; mode++) {
                EnclaveHouse house = new EnclaveHouse(1);
                for (int n = 1; n < 32; n++) {
                    house.setRegister(hart, n, 100 + n);
                }
                house.place(hart, 0x400, mode);
                edges.is("PUT", 1, house.call(hart, 12, 65, 1, 2, 3));
                edges.is("refused", -1, house.call(hart, 99, 65, 1, 2, 3));
                edges.are("PC and MODE", "1024 " + mode, house.count(14 + hart), house.count(12 + hart));
                for (int n = 1; n < 32; n++) {
                    edges.is("x" + n, 100 + n, house.register(hart, n));
                }
            }
        }
        Bench bench = ThreadEdges.twelveThreads();
        bench.call(4, 3, 0);
        edges.are("ENTER of THREAD 11", "11 11", bench.call(5, 11), bench.house.count(8));
        edges.is("the PC stays", 0, bench.house.count(14));
        edges.is("refused", -2, bench.house.call(1, 5, 11, 0, 0, 0));
        bench.house.setControl(0, 0x104, 2);
        bench.house.setControl(0, 0x144, 2);
        bench.house.run(1);
        edges.are("RESUME of THREAD 11", "11 11", bench.house.call(1, 6, 11, 0, 0, 0), bench.house.count(9));
        edges.is("refused", -2, bench.call(6, 11));
    }

    private void callRefused() {
        edges.promise(13, "BAD (-1) also: no such hart, a THREAD runs there, or the machine is OFF.");
        Bench bench = new Bench(1);
        int thread = bench.enclave(BASE, 256, 0, new Code().word(Code.jumping(0, 0)));
        for (int hart : NO_HARTS) {
            edges.are("hart " + hart, "-1 0", bench.house.call(hart, 12, 65, 0, 0, 0), bench.house.count(6));
        }
        bench.house.call(1, 5, thread, 0, 0, 0);
        for (int f = 0; f < 23; f++) {
            edges.is("CALL " + f + " where a THREAD runs", -1, bench.house.call(1, f, 0, 0, 0, 0));
        }
        edges.is("on the other hart", 1, bench.call(12, 65));
        edges.are("OFF", "0 -1 -1", bench.call(18), bench.call(12, 65), bench.call(18));
        edges.are("nothing came of it", "1 2", bench.house.count(6), bench.house.thread(thread, 0));
    }

    private void run() {
        edges.promise(14, "So many ROUNDS, 0 .. 2,000: how many were done (that in which it goes OFF counts).");
        EnclaveHouse house = new EnclaveHouse(1);
        int time = 0;
        for (int rounds : new int[] {0, 1, 2, 1999, 2000}) {
            time += rounds;
            edges.are("rounds " + rounds, rounds + " " + time, house.run(rounds), house.count(0));
        }
        for (int hart = 0; hart < 2; hart++) {
            house = new EnclaveHouse(1);
            house.poke(0x100, Code.NOTHING, Code.NOTHING, Code.CALL, Code.NOTHING, 0);
            house.setRegister(hart, 17, 18);
            house.place(hart, 0x100, 1);
            edges.are("hart " + hart + " goes OFF in the third one", "3 2", house.run(10), house.count(0));
            edges.are("none any more", "0 0 2", house.run(0), house.run(2000), house.count(0));
        }
        house = new EnclaveHouse(1);
        house.poke(0x100, Code.CALL, 0, 0, 0, 0);
        house.setRegister(0, 17, 18);
        house.place(0, 0x100, 1);
        edges.are("the only one", "1 0 1", house.run(1), house.count(0), house.count(1));
    }

    private void runRefused() {
        edges.promise(14, "NONE: another number.");
        EnclaveHouse house = new EnclaveHouse(1);
        for (int rounds : new int[] {-1, -2000, 2001, 4000, MIN, MAX}) {
            edges.are("rounds " + rounds, "-1 0", house.run(rounds), house.count(0));
        }
        house.call(0, 18, 0, 0, 0, 0);
        edges.are("when it is OFF", "-1 -1", house.run(-1), house.run(2001));
    }
}
