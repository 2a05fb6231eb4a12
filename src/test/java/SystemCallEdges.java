/** The document's Terms, section 6: the CALLS of the system. */
final class SystemCallEdges {
    private static final int MIN = Integer.MIN_VALUE;
    private static final int MAX = Integer.MAX_VALUE;
    private static final int BASE = 0x8000;
    private static final int[] NO_ENCLAVES = {-1, 1, 5, 6, MIN, MAX};

    private final Edges edges;

    private SystemCallEdges(Edges itsEdges) {
        edges = itsEdges;
    }

    static void all(Edges edges) {
        SystemCallEdges of = new SystemCallEdges(edges);
        of.registers();
        of.otherNumbers();
        of.firstThatFits();
        of.refusedChangesNothing();
        of.spans();
        of.create();
        of.createOverlap();
        of.createFull();
        of.createWipes();
        of.load();
        of.loadState();
        of.thread();
        of.threadState();
        of.threadFull();
        of.finalise();
        of.finaliseState();
        of.enter();
        of.enterState();
        of.resume();
        of.noAnswer();
        of.stop();
        of.stopBusy();
        of.destroy();
        of.destroyTakesAll();
        of.destroyTakesNoMore();
        of.share();
        of.shareRefusals();
        of.link();
        of.linkRefusals();
        of.drop();
        of.dropWipes();
        of.put();
        of.signal();
        of.dma();
        of.dmaFull();
        of.told();
        of.measure();
        of.look();
        of.off();
        of.slice();
        of.offer();
        of.keys();
    }

    /** One enclave of 512 bytes, LOADING. */
    private static Bench loading() {
        Bench bench = new Bench(1);
        bench.call(1, BASE, 512);
        return bench;
    }

    /** One enclave of 512 bytes, READY, with one THREAD, IDLE, which YIELDS and then goes round. */
    private static Bench ready() {
        Bench bench = new Bench(1);
        bench.enclave(BASE, 512, 0, new Code().call(33, 0, 0).word(Code.jumping(0, 0)));
        return bench;
    }

    private static Bench stopped() {
        Bench bench = ready();
        bench.call(7, 0);
        return bench;
    }

    /** Its THREAD RUNS on hart 1. */
    private static Bench running() {
        Bench bench = ready();
        bench.house.call(1, 5, 0, 0, 0, 0);
        return bench;
    }

    private static Bench yielded() {
        Bench bench = ready();
        bench.enter(0, 0, 0);
        return bench;
    }

    /** Twelve REGIONS, the enclave of which is READY. */
    private static Bench full() {
        Bench bench = RegionEdges.twelveRegions();
        bench.call(4, 0, 0);
        return bench;
    }

    /** Two enclaves and ten REGIONS more; enclave 0 is READY. */
    private static Bench fullOfTwo() {
        Bench bench = new Bench(1);
        bench.call(1, BASE, 256);
        bench.call(1, BASE + 256, 256);
        bench.call(4, 0, 0);
        for (int i = 0; i < 10; i++) {
            bench.call(9, 1, 0xa000 + 256 * i, 256);
        }
        return bench;
    }

    private void registers() {
        edges.terms(6, 14, "6 CALLS. x17 says which one; x10 to x13 are p, q, r, s; x10 becomes the answer; the PC "
            + "goes on by 4 (of the system that began a THREAD, too).");
        Bench bench = ready();
        bench.call(1, 0x9000, 256);
        bench.system(0x200, new Code().word(Code.CALL).word(Code.CALL));
        for (int hart = 0; hart < 2; hart++) {
            int[] given = {hart, 1 - hart, 0xc000 + 1024 * hart, 1024};
            for (int i = 0; i < 4; i++) {
                bench.house.setRegister(hart, 10 + i, given[i]);
            }
            bench.house.setRegister(hart, 17, 10);
            bench.house.setRegister(hart, 14, 55);
        }
        bench.house.place(1, 0x204, 1);
        bench.house.run(1);
        for (int hart = 0; hart < 2; hart++) {
            int region = 2 + hart;
            edges.are("LINK on hart " + hart, "3 " + (0xc000 + 1024 * hart) + " 1024 " + hart + " " + (1 - hart),
                bench.house.region(region, 0), bench.house.region(region, 1), bench.house.region(region, 2),
                bench.house.region(region, 3), bench.house.region(region, 4));
            edges.are("x10 alone becomes the answer", region + " " + (1 - hart) + " " + (0xc000 + 1024 * hart)
                + " 1024 55 10", bench.house.register(hart, 10), bench.house.register(hart, 11),
                bench.house.register(hart, 12), bench.house.register(hart, 13), bench.house.register(hart, 14),
                bench.house.register(hart, 17));
            edges.is("the PC", 0x204 + 4 * hart, bench.house.count(14 + hart));
        }
        bench = ready();
        bench.system(0x200, new Code().word(Code.CALL));
        bench.house.setRegister(0, 17, 5);
        bench.house.setRegister(0, 10, 0);
        bench.house.setRegister(0, 11, 33);
        bench.house.setRegister(0, 12, 44);
        bench.house.run(1);
        edges.are("it began a THREAD, and its PC went on", "0 516", bench.house.count(8), bench.house.count(14));
        edges.are("what the THREAD was given", "33 44", bench.house.inside(0, 10), bench.house.inside(0, 11));
    }

    private void otherNumbers() {
        edges.terms(6, 13, "Refusals are answers, the first that fits in the order told: BAD -1 (always first: no "
            + "such enclave, THREAD, REGION, hart; a number is not as said; also another x17), ");
        for (int f : new int[] {0, -1, 22, 31, 32, 33, 44, 50, 51, 256 + 12, MIN + 12, MIN, MAX}) {
            edges.refused("x17 " + f, SystemCallEdges::ready, -1, f, 0, 0, 0, 0);
            Steps steps = new Steps(Code.CALL).set(17, f).set(10, 5).run(1);
            edges.are("by an instruction", "-1 260", steps.x(10), steps.pc());
        }
        Bench bench = new Bench(1);
        Agent agent = new Agent(bench, BASE);
        for (int f : new int[] {0, 1, 12, 18, 21, 31, 51, 255, -1, MIN, MAX}) {
            edges.is("x17 " + f + " of a THREAD", -1, agent.ask(f, 0, 0, 0, 0));
        }
        edges.are("none of them did anything", "0 0 0", bench.house.count(1), bench.house.count(6),
            bench.house.count(19));
    }

    private void firstThatFits() {
        edges.terms(6, 13, "STATE -2, BUSY -3, OVERLAP -4, FULL -5, DENIED -6.");
        edges.is("CREATE: BAD ahead of OVERLAP", -1, full().call(1, BASE, 255));
        edges.is("CREATE: OVERLAP ahead of FULL", -4, full().call(1, BASE, 256));
        edges.is("LOAD: BAD ahead of STATE", -1, ready().call(2, 0, 2, 0));
        edges.is("LOAD: BAD for its place ahead of STATE", -1, ready().call(2, 0, 0, BASE));
        edges.is("THREAD: BAD ahead of STATE", -1, ready().call(3, 0, 512, 0));
        Bench three = loading();
        for (int i = 0; i < 3; i++) {
            three.call(3, 0, 0, 0);
        }
        edges.is("THREAD: BAD ahead of FULL", -1, three.call(3, 0, 0, 8));
        three.call(4, 0, 0);
        edges.is("THREAD: STATE ahead of FULL", -2, three.call(3, 0, 0, 0));
        edges.is("FINALISE: BAD ahead of STATE", -1, ready().call(4, 0, 2));
        edges.is("SHARE: BAD ahead of STATE", -1, stopped().call(9, 0, 0xa000, 1));
        edges.is("SHARE: STATE ahead of OVERLAP", -2, stopped().call(9, 0, BASE, 256));
        edges.is("SHARE: OVERLAP ahead of FULL", -4, full().call(9, 0, BASE, 256));
        Bench two = fullOfTwo();
        edges.is("LINK: BAD ahead of OVERLAP", -1, two.call(10, 0, 0, BASE, 256));
        edges.is("LINK: OVERLAP ahead of FULL", -4, two.call(10, 0, 1, BASE, 256));
        two.call(7, 0);
        edges.is("LINK: STATE ahead of OVERLAP", -2, two.call(10, 0, 1, BASE, 256));
        edges.is("LINK: BAD ahead of STATE", -1, two.call(10, 0, 1, BASE, 128));
        edges.is("OFFER: BAD ahead of STATE", -1, loading().call(20, 0, 1, 256));
        edges.is("OFFER: STATE ahead of OVERLAP", -2, loading().call(20, 0, BASE, 256));
        edges.is("OFFER: OVERLAP ahead of FULL", -4, full().call(20, 0, BASE, 256));
        edges.is("MEASURE: BAD ahead of STATE", -1, loading().call(16, 0, 8));
        edges.is("LOOK: BAD ahead of DENIED", -1, ready().call(17, 0, 512));
        edges.is("LOOK: DENIED", -6, ready().call(17, 0, 0));
        edges.is("STOP: BUSY", -3, running().call(7, 0));
    }

    private void refusedChangesNothing() {
        edges.terms(6, 13, "What is refused changes nothing.");
        edges.refused("CREATE: BAD", SystemCallEdges::loading, -1, 1, BASE + 0x100, 512);
        edges.refused("CREATE: OVERLAP", SystemCallEdges::loading, -4, 1, BASE + 0x100, 256);
        edges.refused("CREATE: FULL", ThreadEdges::sixEnclaves, -5, 1, 0xa000, 256);
        edges.refused("CREATE: FULL", RegionEdges::twelveRegions, -5, 1, 0, 256);
        edges.refused("LOAD: STATE", SystemCallEdges::ready, -2, 2, 0, 0, 0x1000);
        edges.refused("THREAD: STATE", SystemCallEdges::ready, -2, 3, 0, 0, 0);
        edges.refused("FINALISE: STATE", SystemCallEdges::ready, -2, 4, 0, 1);
        edges.refused("ENTER: STATE", SystemCallEdges::yielded, -2, 5, 0, 9, 9);
        edges.refused("RESUME: STATE", SystemCallEdges::ready, -2, 6, 0, 9);
        edges.refused("STOP: STATE", SystemCallEdges::loading, -2, 7, 0);
        edges.refused("STOP: BUSY", SystemCallEdges::running, -3, 7, 0);
        edges.refused("DESTROY: STATE", SystemCallEdges::ready, -2, 8, 0);
        edges.refused("SHARE: STATE", SystemCallEdges::stopped, -2, 9, 0, 0, 256);
        edges.refused("SHARE: FULL", SystemCallEdges::full, -5, 9, 0, 0, 256);
        edges.refused("LINK: FULL", SystemCallEdges::fullOfTwo, -5, 10, 0, 1, 0, 256);
        edges.refused("DROP: BAD", SystemCallEdges::ready, -1, 11, 0);
        edges.refused("SIGNAL: BAD", SystemCallEdges::ready, -1, 13, 2);
        edges.refused("DMA: BAD", SystemCallEdges::ready, -1, 14, 2, 0, 0);
        edges.refused("SLICE: BAD", SystemCallEdges::ready, -1, 19, 100001);
        edges.refused("OFFER: FULL", SystemCallEdges::full, -5, 20, 0, 0, 256);
        Bench bench = ready();
        bench.house.poke(0x400, 1, 2, 3, 4, 5);
        bench.call(1, 0x400, 257);
        bench.call(10, 0, 0, 0x400, 256);
        bench.call(20, 1, 0x400, 256);
        edges.are("nor did bytes become 0", "1 5", bench.house.word(0x400), bench.house.word(0x410));
    }

    private void spans() {
        edges.terms(6, 13, "SPAN: p and q are a base and a size as those of a REGION.");
        int[][] wrong = {{0, 128}, {0, 65536}, {128, 256}, {256, 512}, {131072, 256}, {-256, 256}, {0, 0}, {0, -256},
            {0, 300}, {MIN, 256},
            {0, MIN}, {MAX, MAX}, {131072 - 256, 512}};
        for (int[] one : wrong) {
            edges.is("CREATE " + one[0] + ", " + one[1], -1, new Bench(1).call(1, one));
            edges.is("SHARE " + one[0] + ", " + one[1], -1, ready().call(9, 0, one[0], one[1]));
            Bench bench = ready();
            bench.call(1, 0x9000, 256);
            edges.is("LINK " + one[0] + ", " + one[1], -1, bench.call(10, 0, 1, one[0], one[1]));
            edges.is("OFFER " + one[0] + ", " + one[1], -1, bench.call(20, 0, one[0], one[1]));
        }
        for (int[] one : new int[][] {{0, 256}, {131072 - 256, 256}, {131072 - 32768, 32768}, {0, 32768}}) {
            edges.is("CREATE " + one[0] + ", " + one[1], 0, new Bench(1).call(1, one));
            edges.is("SHARE " + one[0] + ", " + one[1], 1, ready().call(9, 0, one[0], one[1]));
            Bench bench = ready();
            bench.call(1, 0x9000, 256);
            edges.is("LINK " + one[0] + ", " + one[1], 2, bench.call(10, 0, 1, one[0], one[1]));
            edges.is("OFFER " + one[0] + ", " + one[1], 1, ready().call(20, 0, one[0], one[1]));
        }
    }

    private void create() {
        edges.terms(6, 13, "Of the system: 1 CREATE, SPAN p, q.");
        Bench bench = new Bench(1);
        edges.is("the first one", 0, bench.call(1, 131072 - 32768, 32768));
        edges.is("what it has", "1 98304 32768 -1 0 1 0 0", enclave(bench, 0));
        edges.is("the second one", 1, bench.call(1, 0, 256));
        edges.is("what it has", "1 0 256 -1 0 1 0 0", enclave(bench, 1));
    }

    private static String enclave(Bench bench, int i) {
        StringBuilder text = new StringBuilder();
        for (int what = 0; what < 8; what++) {
            text.append(what == 0 ? "" : " ").append(bench.house.enclave(i, what));
        }
        return text.toString();
    }

    private void createOverlap() {
        edges.terms(6, 13, "OVERLAP: with a REGION.");
        Bench bench = ready();
        bench.call(9, 0, 0xa000, 256);
        bench.call(20, 0, 0xb000, 256);
        bench.call(1, 0xd000, 256);
        bench.call(10, 0, 1, 0xc000, 256);
        for (int place : new int[] {BASE, BASE + 256, 0xa000, 0xb000, 0xc000, 0xd000}) {
            edges.is("at " + place, -4, bench.call(1, place, 256));
        }
        edges.is("around one", -4, bench.call(1, BASE, 32768));
        bench.call(11, 2);
        edges.is("where one was", 2, bench.call(1, 0xb000, 256));
    }

    private void createFull() {
        edges.terms(6, 13, "FULL: 6 enclaves, or 12 REGIONS.");
        Bench bench = ThreadEdges.sixEnclaves();
        edges.is("6 enclaves", -5, bench.call(1, 0xa000, 256));
        bench.call(8, 3);
        edges.is("5 enclaves", 3, bench.call(1, 0xa000, 256));
        bench = RegionEdges.twelveRegions();
        edges.is("12 REGIONS", -5, bench.call(1, 0, 256));
        bench.call(11, 7);
        edges.is("11 REGIONS", 1, bench.call(1, 0, 256));
        edges.is("its REGION", 7, regionOf(bench, 1));
    }

    private static int regionOf(Bench bench, int enclave) {
        for (int i = 0; i < 12; i++) {
            if (bench.house.region(i, 0) == 1 && bench.house.region(i, 3) == enclave) {
                return i;
            }
        }
        return -1;
    }

    private void createWipes() {
        edges.terms(6, 13, "All bytes of it are 0 then; the enclave's number (the least free, as with all numbers "
            + "here); LOADING.");
        Bench bench = new Bench(1);
        bench.house.poke(0x7ffc, 1, 2, 0, 0, 0);
        bench.house.poke(0x81ec, 0, 0, 0, 0, 3);
        bench.house.poke(0x8200, 4, 0, 0, 0, 0);
        bench.call(1, BASE, 512);
        edges.are("its first and last word, and those beside it", "0 0 1 4", bench.house.inner(BASE),
            bench.house.inner(0x81fc), bench.house.inner(0x7ffc), bench.house.inner(0x8200));
        edges.is("LOADING", 1, bench.house.enclave(0, 0));
        bench.house.poke(0, 5, 6, 7, 8, 9);
        bench.call(1, 0, 256);
        edges.are("at place 0", "0 0", bench.house.inner(0), bench.house.inner(16));
        bench = ThreadEdges.sixEnclaves();
        for (int i = 0; i < 6; i++) {
            bench.call(3, i, 0, 0);
        }
        for (int i : new int[] {4, 1, 2}) {
            bench.call(8, i);
        }
        edges.are("the least free enclave, REGION, THREAD", "1 1 1", bench.call(1, 0xa000, 512), regionOf(bench, 1),
            bench.call(3, 1, 0, 0));
        edges.are("the next ones", "2 2 2 4", bench.call(1, 0xb000, 512), regionOf(bench, 2), bench.call(3, 2, 0, 0),
            bench.call(9, 2, 0xc000, 256));
    }

    private void load() {
        edges.terms(6, 13, "2 LOAD of page q (256 bytes each; below the size) of enclave p from r on (a multiple of "
            + "4): BAD also: not all those 256 bytes are OPEN.");
        Bench bench = loading();
        bench.house.poke(0x400, 1, 2, 3, 4, 5);
        bench.house.poke(0x4ec, 6, 7, 8, 9, 10);
        edges.is("page 1", 0, bench.call(2, 0, 1, 0x400));
        edges.are("its bytes", "1 10", bench.house.inner(BASE + 256), bench.house.inner(BASE + 508));
        edges.are("page 0 is as it was", "0 0", bench.house.inner(BASE), bench.house.inner(BASE + 252));
        edges.is("page 0 from 4 on", 0, bench.call(2, 0, 0, 0x404));
        edges.are("its bytes", "2 10 0", bench.house.inner(BASE), bench.house.inner(BASE + 248),
            bench.house.inner(BASE + 252));
        for (int page : new int[] {-1, 2, 3, 512, 1 << 24, MIN, MAX}) {
            edges.refused("page " + page, SystemCallEdges::loading, -1, 2, 0, page, 0x400);
        }
        for (int enclave : NO_ENCLAVES) {
            edges.is("enclave " + enclave, -1, bench.call(2, enclave, 0, 0x400));
        }
        int[] places = {1, 2, 3, 0x401, -4, -256, 131072, 131072 - 252, MIN, MAX, MAX - 3, BASE, BASE - 4, BASE - 252,
            BASE + 508, BASE + 256};
        for (int place : places) {
            edges.refused("from " + place, SystemCallEdges::loading, -1, 2, 0, 0, place);
        }
        for (int place : new int[] {0, 131072 - 256, BASE - 256, BASE + 512}) {
            edges.is("from " + place, 0, bench.call(2, 0, 0, place));
        }
        bench.call(9, 0, 0xa000, 256);
        bench.call(1, 0xa200, 256);
        bench.house.poke(0xa000, 77, 0, 0, 0, 0);
        edges.are("from a SHARED REGION", "0 77", bench.call(2, 0, 0, 0xa000), bench.house.inner(BASE));
        edges.is("from its end into what is OPEN", 0, bench.call(2, 0, 0, 0xa080));
        edges.is("from there into an enclave", -1, bench.call(2, 0, 0, 0xa104));
    }

    private void loadState() {
        edges.terms(6, 13, "BAD also: not all those 256 bytes are OPEN. STATE: not LOADING. 0.");
        edges.is("LOADING", 0, loading().call(2, 0, 0, 0x400));
        edges.is("READY", -2, ready().call(2, 0, 0, 0x400));
        edges.is("STOPPED", -2, stopped().call(2, 0, 0, 0x400));
    }

    private void thread() {
        edges.terms(6, 13, "3 THREAD of enclave p, entry q (a multiple of 4 below the size), stack r (a multiple of "
            + "16, at most the size, 0 and more). ");
        for (int[] one : new int[][] {{0, 0}, {508, 512}, {4, 16}}) {
            Bench bench = loading();
            edges.is("entry " + one[0] + ", stack " + one[1], 0, bench.call(3, 0, one[0], one[1]));
            edges.are("what it has", "1 0 -1 " + one[0] + " " + one[1], bench.house.thread(0, 0),
                bench.house.thread(0, 1), bench.house.thread(0, 2), bench.house.thread(0, 3), bench.house.thread(0, 4));
        }
        for (int entry : new int[] {1, 2, 3, 510, 512, 516, -4, -1, MIN, MAX, MAX - 3}) {
            edges.refused("entry " + entry, SystemCallEdges::loading, -1, 3, 0, entry, 0);
        }
        for (int stack : new int[] {1, 4, 8, 15, 17, 504, 513, 528, 1024, -16, -1, MIN, MAX, MAX - 15}) {
            edges.refused("stack " + stack, SystemCallEdges::loading, -1, 3, 0, 0, stack);
        }
        for (int enclave : NO_ENCLAVES) {
            edges.refused("enclave " + enclave, SystemCallEdges::loading, -1, 3, enclave, 0, 0);
        }
    }

    private void threadState() {
        edges.terms(6, 13, "0 and more). STATE: not LOADING. ");
        edges.is("READY", -2, ready().call(3, 0, 0, 0));
        edges.is("STOPPED", -2, stopped().call(3, 0, 0, 0));
    }

    private void threadFull() {
        edges.terms(6, 13, "FULL: 3, or 12 in all. Its number; IDLE.");
        Bench bench = loading();
        for (int i = 0; i < 3; i++) {
            edges.is("one more", i, bench.call(3, 0, 0, 0));
            edges.are("IDLE, and how many there are", "1 " + (i + 1), bench.house.thread(i, 0),
                bench.house.enclave(0, 4));
        }
        edges.is("a fourth", -5, bench.call(3, 0, 0, 0));
        edges.are("how many there are", "3 3", bench.house.enclave(0, 4), bench.house.count(4));
        bench = ThreadEdges.sixEnclaves();
        for (int i = 0; i < 12; i++) {
            bench.call(3, i % 5, 0, 0);
        }
        edges.are("a thirteenth, though it has two", "-5 2", bench.call(3, 4, 0, 0), bench.house.enclave(4, 4));
        edges.are("a thirteenth, though it has none", "-5 0", bench.call(3, 5, 0, 0), bench.house.enclave(5, 4));
        bench.call(8, 1);
        edges.are("when there is room again", "1 1", bench.call(3, 5, 0, 0), bench.house.enclave(5, 4));
    }

    private void finalise() {
        edges.terms(6, 13, "4 FINALISE enclave p with FLAGS q (0, 1).");
        for (int flags = 0; flags < 2; flags++) {
            Bench bench = loading();
            edges.is("FLAGS while LOADING", -1, bench.house.enclave(0, 3));
            edges.are("FLAGS " + flags, "0 2 " + flags, bench.call(4, 0, flags), bench.house.enclave(0, 0),
                bench.house.enclave(0, 3));
        }
        for (int flags : new int[] {-1, 2, 3, 256, MIN, MAX}) {
            edges.refused("FLAGS " + flags, SystemCallEdges::loading, -1, 4, 0, flags);
        }
        for (int enclave : NO_ENCLAVES) {
            edges.refused("enclave " + enclave, SystemCallEdges::loading, -1, 4, enclave, 0);
        }
    }

    private void finaliseState() {
        edges.terms(6, 13, "4 FINALISE enclave p with FLAGS q (0, 1). STATE: not LOADING. 0; READY.");
        edges.is("READY", -2, ready().call(4, 0, 0));
        edges.is("STOPPED", -2, stopped().call(4, 0, 0));
        Bench bench = loading();
        edges.are("without a THREAD or a page", "0 2", bench.call(4, 0, 0), bench.house.enclave(0, 0));
    }

    private void enter() {
        edges.terms(6, 13, "5 ENTER THREAD p with q (x10) and r (x11).");
        for (int thread : new int[] {-1, 1, 11, 12, MIN, MAX}) {
            edges.refused("THREAD " + thread, SystemCallEdges::ready, -1, 5, thread, 0, 0);
        }
        for (int hart = 0; hart < 2; hart++) {
            Bench bench = ready();
            edges.is("on hart " + hart, 0, bench.house.call(hart, 5, 0, MIN, MAX, 7));
            edges.are("what it is given", MIN + " " + MAX + " 0", bench.house.inside(0, 10), bench.house.inside(0, 11),
                bench.house.inside(0, 12));
            edges.are("where it runs", hart + " " + (hart == 0 ? "0 -1" : "-1 0"), bench.house.thread(0, 2),
                bench.house.count(8), bench.house.count(9));
        }
    }

    private void enterState() {
        edges.terms(6, 13, "STATE: the enclave is not READY, or it is not IDLE.");
        Bench bench = loading();
        bench.call(3, 0, 0, 0);
        edges.is("the enclave is LOADING", -2, bench.call(5, 0));
        edges.is("the enclave is STOPPED", -2, stopped().call(5, 0));
        edges.is("it is RUNNING", -2, running().call(5, 0));
        edges.is("it YIELDED", -2, yielded().call(5, 0));
        bench = ready();
        bench.house.secret(0, 0, 0);
        bench.enter(0, 0, 0);
        edges.are("it is DEAD", "5 -2", bench.house.thread(0, 0), bench.call(5, 0));
        bench = ready();
        bench.call(19, 1);
        bench.enter(0, 0, 0);
        edges.are("it was INTERRUPTED", "3 -2", bench.house.thread(0, 0), bench.call(5, 0));
    }

    private void resume() {
        edges.terms(6, 13, "6 RESUME THREAD p with q. STATE: not READY, or neither INTERRUPTED nor YIELDED.");
        for (int thread : new int[] {-1, 1, 11, 12, MIN, MAX}) {
            edges.refused("THREAD " + thread, SystemCallEdges::yielded, -1, 6, thread, 0);
        }
        edges.is("it is IDLE", -2, ready().call(6, 0));
        edges.is("it is RUNNING", -2, running().call(6, 0));
        edges.is("it YIELDED", 0, yielded().call(6, 0));
        Bench bench = ready();
        bench.call(19, 1);
        bench.enter(0, 0, 0);
        edges.are("it was INTERRUPTED", "3 0", bench.house.thread(0, 0), bench.call(6, 0));
        bench = ready();
        bench.house.secret(0, 0, 0);
        bench.enter(0, 0, 0);
        edges.is("it is DEAD", -2, bench.call(6, 0));
        bench = yielded();
        bench.call(7, 0);
        edges.is("the enclave is STOPPED", -2, bench.call(6, 0));
    }

    private void noAnswer() {
        edges.terms(6, 14, "(Of 5 and 6 there is an answer only if they are refused.)");
        for (int f = 5; f < 7; f++) {
            Bench bench = f == 5 ? ready() : yielded();
            bench.system(0x200, new Code().word(Code.CALL));
            bench.house.setRegister(0, 17, f);
            bench.house.setRegister(0, 10, 0);
            bench.house.setRegister(0, 11, 9);
            bench.house.run(1);
            edges.are("CALL " + f + ": x10 stays", "0 9", bench.house.register(0, 10), bench.house.register(0, 11));
            bench = f == 5 ? yielded() : ready();
            bench.system(0x200, new Code().word(Code.CALL));
            bench.house.setRegister(0, 17, f);
            bench.house.setRegister(0, 10, 0);
            bench.house.run(1);
            edges.is("CALL " + f + " refused", -2, bench.house.register(0, 10));
            bench.house.place(0, 0x200, 1);
            bench.house.setRegister(0, 10, 11);
            bench.house.run(1);
            edges.is("CALL " + f + " of no THREAD", -1, bench.house.register(0, 10));
        }
    }

    private void stop() {
        edges.terms(6, 13, "7 STOP enclave p. STATE: not READY. ");
        for (int enclave : NO_ENCLAVES) {
            edges.refused("enclave " + enclave, SystemCallEdges::ready, -1, 7, enclave);
        }
        edges.is("LOADING", -2, loading().call(7, 0));
        edges.is("STOPPED", -2, stopped().call(7, 0));
        Bench bench = ready();
        edges.are("READY", "0 3", bench.call(7, 0), bench.house.enclave(0, 0));
    }

    private void stopBusy() {
        edges.terms(6, 13, "BUSY: a THREAD of it is RUNNING. 0; STOPPED.");
        edges.is("RUNNING", -3, running().call(7, 0));
        Bench bench = yielded();
        edges.are("YIELDED", "0 3 4", bench.call(7, 0), bench.house.enclave(0, 0), bench.house.thread(0, 0));
        bench = running();
        bench.call(1, 0x9000, 256);
        bench.call(4, 1, 0);
        edges.is("a THREAD of another one is RUNNING", 0, bench.call(7, 1));
        bench = loading();
        for (int i = 0; i < 3; i++) {
            bench.call(3, 0, 0, 0);
        }
        bench.call(4, 0, 0);
        bench.house.call(1, 5, 2, 0, 0, 0);
        edges.is("its third THREAD is RUNNING", -3, bench.call(7, 0));
        bench.house.run(1);
        edges.are("it is DEAD", "5 0", bench.house.thread(2, 0), bench.call(7, 0));
        bench = ThreadEdges.twelveThreads();
        bench.call(4, 3, 0);
        bench.house.call(1, 5, 11, 0, 0, 0);
        edges.is("THREAD 11 is RUNNING", -3, bench.call(7, 3));
    }

    private void destroy() {
        edges.terms(6, 13, "8 DESTROY enclave p. STATE: READY. ");
        for (int enclave : NO_ENCLAVES) {
            edges.refused("enclave " + enclave, SystemCallEdges::stopped, -1, 8, enclave);
        }
        edges.is("READY", -2, ready().call(8, 0));
        Bench bench = loading();
        edges.are("LOADING", "0 0 0", bench.call(8, 0), bench.house.enclave(0, 0), bench.house.count(2));
        bench = stopped();
        edges.are("STOPPED", "0 0 0", bench.call(8, 0), bench.house.enclave(0, 0), bench.house.count(2));
        edges.is("again", -1, bench.call(8, 0));
        bench = ThreadEdges.twelveThreads();
        for (int i = 3; i >= 0; i--) {
            edges.are("all THREADS of enclave " + i, "0 0 0 0 " + 3 * i, bench.call(8, i), bench.house.thread(3 * i, 0),
                bench.house.thread(3 * i + 1, 0), bench.house.thread(3 * i + 2, 0), bench.house.count(4));
        }
    }

    private void destroyTakesAll() {
        edges.terms(6, 13, "All bytes of its REGION become 0; its THREADS, BOX, SHARED REGIONS, LINKS, EXTRA (as "
            + "with DROP), and it itself are no more; the PATH, if it has that, is released (no EVENT). 0.");
        Bench bench = new Bench(1);
        Agent first = new Agent(bench, BASE);
        Agent second = new Agent(bench, 0x9000);
        int mine = bench.call(9, 0, 0xa000, 256);
        int its = bench.call(9, 1, 0xb000, 256);
        int link = bench.call(10, 1, 0, 0xc000, 256);
        int extra = bench.call(20, 0, 0xd000, 256);
        first.ask(38, link);
        first.ask(38, extra);
        first.ask(39, 0xc000);
        first.ask(39, 0xd0e0);
        first.ask(39, BASE + 1024 - 32);
        second.ask(40, 0, 0x9300);
        first.ask(45);
        first.ask(47, 65);
        bench.house.type(5);
        bench.house.poke(0xa000, 1, 2, 3, 4, 5);
        edges.are("before", "1 0 1 1 2", bench.house.enclave(0, 6), bench.house.count(20), bench.house.count(21),
            bench.house.count(22), bench.house.count(4));
        for (int place : new int[] {0xc000, 0xd0fc, BASE + 1020}) {
            edges.is("bytes before at " + place, false, bench.house.inner(place) == 0);
        }
        bench.call(7, 0);
        int events = bench.house.count(5);
        edges.is("DESTROY", 0, bench.call(8, 0));
        edges.are("its REGION's bytes", "0 0", bench.house.inner(BASE), bench.house.inner(BASE + 1020));
        edges.are("a LINK's and EXTRA's bytes", "0 0", bench.house.inner(0xc000), bench.house.inner(0xd0fc));
        edges.are("what was SHARED stays", "1 5", bench.house.word(0xa000), bench.house.word(0xa010));
        edges.are("REGIONS", "0 0 2 0 0", bench.house.region(0, 0), bench.house.region(mine, 0),
            bench.house.region(its, 0), bench.house.region(link, 0), bench.house.region(extra, 0));
        edges.are("THREADS", "0 4 1", bench.house.thread(0, 0), bench.house.thread(1, 0), bench.house.count(4));
        edges.are("all is OPEN", "0 0 0", bench.house.poke(BASE, 1, 1, 1, 1, 1),
            bench.house.poke(0xc000, 1, 1, 1, 1, 1), bench.house.poke(0xd000, 1, 1, 1, 1, 1));
        edges.are("the PATH", "-1 0 0 -1", bench.house.count(20), bench.house.count(21), bench.house.count(22),
            bench.house.panel(0));
        edges.is("no EVENT", events, bench.house.count(5));
        bench.call(1, 0x10000, 256);
        edges.are("the next one's BOX is empty, and it asked for nothing", "1 0 0 0", bench.house.enclave(0, 0),
            bench.house.enclave(0, 6), bench.house.enclave(0, 4), bench.house.enclave(0, 7));
        edges.is("the PATH of another one stays", 0, second.ask(45));
        bench.call(8, 0);
        edges.is("who has it", 1, bench.house.count(20));
    }

    /** What the enclave had once, and another one has now or nobody, stays. */
    private void destroyTakesNoMore() {
        edges.terms(6, 13, "its THREADS, BOX, SHARED REGIONS, LINKS, EXTRA (as with DROP), and it itself are no more;");
        Bench bench = ready();
        bench.call(1, 0x9000, 256);
        int shared = bench.call(9, 0, 0xa000, 256);
        int link = bench.call(10, 0, 1, 0xb000, 256);
        int extra = bench.call(20, 0, 0xc000, 256);
        bench.call(11, extra);
        bench.call(11, link);
        bench.call(11, shared);
        edges.is("the place of the first one is an enclave's now", 2, bench.call(1, 0xa000, 256));
        bench.house.secret(2, 0, 7);
        bench.house.poke(0xb000, 8, 0, 0, 0, 0);
        bench.house.poke(0xc000, 9, 0, 0, 0, 0);
        bench.call(7, 0);
        edges.is("DESTROY", 0, bench.call(8, 0));
        edges.are("bytes", "7 8 9", bench.house.inner(0xa000), bench.house.word(0xb000), bench.house.word(0xc000));
        edges.are("the other enclaves", "1 1 40960", bench.house.enclave(1, 0), bench.house.enclave(2, 0),
            bench.house.enclave(2, 1));
        edges.are("what is not OPEN is so still", "-1 -1", bench.house.poke(0xa000, 1, 1, 1, 1, 1),
            bench.house.poke(0x9000, 1, 1, 1, 1, 1));
    }

    private void share() {
        edges.terms(6, 13, "9 SHARE with enclave p: SPAN q, r.");
        for (int enclave : NO_ENCLAVES) {
            edges.refused("enclave " + enclave, SystemCallEdges::ready, -1, 9, enclave, 0xa000, 256);
        }
        Bench bench = ready();
        bench.house.poke(0xa000, 1, 2, 3, 4, 5);
        edges.is("with a READY one", 1, bench.call(9, 0, 0xa000, 512));
        edges.are("its bytes stay", "1 1", bench.house.word(0xa000), bench.house.inner(0xa000));
        edges.is("with a LOADING one", 1, loading().call(9, 0, 0xa000, 256));
    }

    private void shareRefusals() {
        edges.terms(6, 13, "SPAN q, r. STATE: STOPPED. OVERLAP. FULL: 12 REGIONS. The REGION.");
        edges.is("STOPPED", -2, stopped().call(9, 0, 0xa000, 256));
        edges.is("OVERLAP", -4, ready().call(9, 0, BASE + 256, 256));
        edges.is("FULL", -5, full().call(9, 0, 0, 256));
        Bench bench = full();
        bench.call(11, 11);
        bench.call(11, 3);
        edges.are("the least free REGIONS", "3 11 -5", bench.call(9, 0, 0, 256), bench.call(9, 0, 256, 256),
            bench.call(9, 0, 512, 256));
    }

    private void link() {
        edges.terms(6, 13, "10 LINK of enclaves p and q (BAD also: the same): SPAN r, s.");
        Bench bench = ready();
        bench.call(1, 0x9000, 256);
        int[][] wrong = {{0, 0}, {1, 1}, {0, 2}, {2, 0}, {0, -1}, {-1, 0}, {6, 0}, {0, 6}, {MIN, 0}, {0, MAX}};
        for (int[] one : wrong) {
            edges.is("of " + one[0] + ", " + one[1], -1, bench.call(10, one[0], one[1], 0xa000, 256));
        }
        edges.is("of 0, 1", 2, bench.call(10, 0, 1, 0xa000, 256));
        edges.is("of 1, 0, too", 3, bench.call(10, 1, 0, 0xb000, 256));
        edges.are("whose they are", "0 1 1 0", bench.house.region(2, 3), bench.house.region(2, 4),
            bench.house.region(3, 3), bench.house.region(3, 4));
    }

    private void linkRefusals() {
        edges.terms(6, 13, "STATE: one is STOPPED. OVERLAP. FULL. All bytes of it are 0 then; the REGION. 11");
        Bench bench = stopped();
        bench.call(1, 0x9000, 256);
        edges.are("one is STOPPED", "-2 -2", bench.call(10, 0, 1, 0xa000, 256), bench.call(10, 1, 0, 0xa000, 256));
        bench = ready();
        bench.call(1, 0x9000, 256);
        bench.house.poke(0xa000, 1, 2, 3, 4, 5);
        bench.house.poke(0xa1fc, 6, 7, 8, 9, 10);
        edges.are("OVERLAP", "-4 -4", bench.call(10, 0, 1, BASE, 256), bench.call(10, 0, 1, 0x9000, 4096));
        edges.is("READY and LOADING", 2, bench.call(10, 0, 1, 0xa000, 512));
        edges.are("all bytes are 0, and no more", "0 0 7", bench.house.inner(0xa000), bench.house.inner(0xa1fc),
            bench.house.inner(0xa200));
        edges.is("FULL", -5, fullOfTwo().call(10, 0, 1, 0, 256));
    }

    private void drop() {
        edges.terms(6, 13, "11 DROP REGION p. BAD also: a PRIVATE one.");
        for (int region : new int[] {-1, 0, 1, 11, 12, MIN, MAX}) {
            edges.refused("REGION " + region, SystemCallEdges::ready, -1, 11, region);
        }
        Bench bench = full();
        for (int i = 11; i > 0; i--) {
            edges.are("REGION " + i, "0 0 " + i, bench.call(11, i), bench.house.region(i, 0), bench.house.count(3));
        }
        bench = new Bench(1);
        bench.call(1, 0x9000, 256);
        bench.call(1, BASE, 256);
        bench.call(8, 0);
        bench.call(9, 1, 0xa000, 256);
        bench.call(4, 1, 0);
        bench.call(7, 1);
        edges.are("REGION 0, whatever its enclave's state is", "2 0 0", bench.house.region(0, 0), bench.call(11, 0),
            bench.house.region(0, 0));
    }

    private void dropWipes() {
        edges.terms(6, 13, "All bytes of a LINK, of EXTRA become 0; it is no more. 0.");
        Bench bench = new Bench(1);
        Agent agent = new Agent(bench, BASE);
        bench.call(1, 0x9000, 256);
        int link = bench.call(10, 0, 1, 0xc000, 256);
        int extra = bench.call(20, 0, 0xd000, 256);
        int shared = bench.call(9, 0, 0xe000, 256);
        for (int region : new int[] {link, extra, shared}) {
            agent.ask(38, region);
        }
        for (int place : new int[] {0xc000, 0xd000, 0xe000}) {
            agent.ask(39, place);
            agent.ask(39, place + 224);
        }
        edges.are("DROP", "0 0 0", bench.call(11, link), bench.call(11, extra), bench.call(11, shared));
        edges.are("bytes of the LINK", "0 0", bench.house.inner(0xc000), bench.house.inner(0xc0fc));
        edges.are("bytes of EXTRA", "0 0", bench.house.inner(0xd000), bench.house.inner(0xd0fc));
        edges.is("bytes of what was SHARED", false, bench.house.word(0xe000) == 0 || bench.house.word(0xe0fc) == 0);
        edges.are("it can be reached no more", "-1 -1 -1", agent.ask(39, 0xc000), agent.ask(39, 0xd000),
            agent.ask(39, 0xe000));
        edges.are("a new one in its place is not ACCEPTED", "3 0", bench.call(9, 0, 0xe000, 256),
            bench.house.region(3, 5));
        edges.is("nor reached", -1, agent.ask(39, 0xe000));
    }

    private void put() {
        edges.terms(6, 13, "12 PUT: the lowest byte of p goes to the CONSOLE. FULL: it has 1,024. How many it has.");
        Bench bench = new Bench(1);
        int[] given = {0, 255, 256, -1, MIN, 0x1234};
        int[] due = {0, 255, 0, 255, 0, 0x34};
        for (int i = 0; i < given.length; i++) {
            edges.are("PUT " + given[i], i + 1 + " " + due[i], bench.call(12, given[i]), bench.house.console(i));
        }
        // The rest by the system's own code, three words for each byte.
        bench.stillHart1();
        bench.system(0x200, new Code().set(17, 12).word(Code.byNumber(19, 10, 0, 0, 7)).word(Code.CALL)
            .word(Code.jumping(0, -8)));
        bench.house.run(2 + 3 * 600);
        bench.house.run(3 * 417);
        edges.is("nearly full", 1023, bench.house.count(6));
        edges.are("the last one", "1024 9", bench.call(12, 9), bench.house.console(1023));
        edges.are("FULL", "-5 1024 9 -1", bench.call(12, 8), bench.house.count(6), bench.house.console(1023),
            bench.house.console(1024));
        bench.house.run(3);
        edges.is("by an instruction", -5, bench.house.register(0, 10));
    }

    private void signal() {
        edges.terms(6, 13, "13 SIGNAL hart p: bit 1 of PENDING there is set. 0. 14");
        for (int by = 0; by < 2; by++) {
            for (int hart = 0; hart < 2; hart++) {
                EnclaveHouse house = new EnclaveHouse(1);
                edges.is("SIGNAL " + hart + " by " + by, 0, house.call(by, 13, hart, 0, 0, 0));
                edges.are("PENDING", (hart == 0 ? 2 : 0) + " " + (hart == 1 ? 2 : 0), house.control(0, 0x144),
                    house.control(1, 0x144));
                edges.are("again", "0 2", house.call(by, 13, hart, 0, 0, 0), house.control(hart, 0x144));
            }
        }
        for (int hart : new int[] {-1, 2, MIN, MAX}) {
            edges.refused("hart " + hart, SystemCallEdges::ready, -1, 13, hart);
        }
        Bench bench = running();
        edges.are("a hart with a THREAD", "0 2", bench.call(13, 1), bench.house.control(1, 0x144));
    }

    private void dma() {
        edges.terms(6, 13, "14 DMA (8): p 0 to MEMORY, 1 from there; sector q, 0 .. 31; place r, a multiple of 4, "
            + "all 256 bytes of which there are.");
        for (int[] one : new int[][] {{0, 0, 0}, {1, 31, 131072 - 256}, {0, 31, 4}, {1, 0, BASE}}) {
            edges.is("DMA", 1, ready().call(14, one));
        }
        int[][] wrong = {{-1, 0, 0}, {2, 0, 0}, {MIN, 0, 0}, {MAX, 0, 0}, {0, -1, 0}, {0, 32, 0}, {0, MIN, 0},
            {0, MAX, 0}, {0, 0, 1}, {0, 0, 2},
            {0, 0, 3}, {0, 0, -4}, {0, 0, 131072 - 252}, {0, 0, 131072}, {0, 0, MIN}, {0, 0, MAX - 3}, {0, 0, -256}};
        for (int[] one : wrong) {
            edges.refused("DMA " + one[0] + " " + one[1] + " " + one[2], SystemCallEdges::ready, -1, 14, one);
        }
        EnclaveHouse house = new EnclaveHouse(1);
        house.disk(31, 255, 9);
        house.poke(0x400, 0x11, 0, 0, 0, 0);
        house.call(0, 14, 0, 31, 131072 - 256, 0);
        house.call(0, 14, 1, 0, 0x400, 0);
        house.run(6);
        edges.are("to MEMORY, from there", "150994944 17", house.word(131068), house.disk(0, 0, -1));
    }

    private void dmaFull() {
        edges.terms(6, 13, "FULL: 4 wait. How many wait.");
        Bench bench = new Bench(1);
        for (int i = 1; i < 5; i++) {
            edges.is("one more", i, bench.call(14, 0, 0, 0x400));
        }
        edges.are("FULL", "-5 4", bench.call(14, 0, 0, 0x400), bench.house.count(7));
        edges.is("BAD comes first", -1, bench.call(14, 0, 32, 0x400));
        bench.house.run(4);
        edges.is("none is done yet", -5, bench.call(14, 0, 0, 0x400));
        bench.house.run(1);
        edges.are("one is done", "4 4", bench.call(14, 0, 0, 0x400), bench.house.count(7));
    }

    private void told() {
        edges.terms(6, 13, "15 TOLD: how many DMAs were done that were not told, and 256 times how many of these "
            + "FAILED; they are told then.");
        Bench bench = ready();
        edges.is("none", 0, bench.call(15));
        bench.call(14, 0, 0, 0x400);
        bench.call(14, 0, 0, BASE);
        bench.call(14, 1, 0, BASE - 252);
        bench.house.run(4);
        edges.is("three wait", 0, bench.call(15));
        bench.house.run(3);
        edges.are("three done, two FAILED", "3 2 515", bench.house.count(17), bench.house.count(18), bench.call(15));
        edges.are("told", "0 0 0", bench.house.count(17), bench.house.count(18), bench.call(15));
        bench.call(14, 0, 0, BASE);
        bench.house.run(5);
        edges.are("one that FAILED", "257 0", bench.call(15), bench.call(15));
    }

    private void measure() {
        edges.terms(6, 13, "16 MEASURE: word q (0 .. 7) of the MEASUREMENT of enclave p, its highest byte being the "
            + "earliest. STATE: LOADING.");
        Bench bench = loading();
        bench.call(4, 0, 1);
        byte[] due = Bench.sha(Bench.numbers(1, 512, 4, 1));
        for (int q = 0; q < 8; q++) {
            edges.is("word " + q, Bench.word(due, q), bench.call(16, 0, q));
        }
        for (int q : new int[] {-1, 8, MIN, MAX}) {
            edges.refused("word " + q, SystemCallEdges::ready, -1, 16, 0, q);
        }
        for (int enclave : NO_ENCLAVES) {
            edges.refused("enclave " + enclave, SystemCallEdges::ready, -1, 16, enclave, 0);
        }
        edges.is("LOADING", -2, loading().call(16, 0, 0));
        bench.call(7, 0);
        edges.is("STOPPED", Bench.word(due, 0), bench.call(16, 0, 0));
    }

    private void look() {
        edges.terms(6, 13, "17 LOOK at offset q (a multiple of 4 below the size) of enclave p: the word. DENIED: not "
            + "DEBUG, or LOADING.");
        Bench bench = loading();
        bench.house.poke(0x4ec, 1, 2, 3, 4, -5);
        bench.call(2, 0, 1, 0x400);
        edges.are("LOADING", "-6 -6", bench.call(17, 0, 0), bench.call(17, 0, 508));
        bench.call(4, 0, 1);
        edges.are("DEBUG", "0 -5 4", bench.call(17, 0, 0), bench.call(17, 0, 508), bench.call(17, 0, 504));
        for (int offset : new int[] {-4, -1, 1, 2, 3, 509, 510, 512, 516, MIN, MAX, MAX - 3}) {
            edges.is("offset " + offset, -1, bench.call(17, 0, offset));
        }
        for (int enclave : NO_ENCLAVES) {
            edges.is("enclave " + enclave, -1, bench.call(17, enclave, 0));
        }
        bench.call(7, 0);
        edges.is("STOPPED and DEBUG", -5, bench.call(17, 0, 508));
        edges.is("not DEBUG", -6, ready().call(17, 0, 0));
        edges.is("STOPPED and not DEBUG", -6, stopped().call(17, 0, 0));
        bench.call(8, 0);
        bench.call(1, BASE, 512);
        edges.is("LOADING where one was DEBUG", -6, bench.call(17, 0, 0));
    }

    private void off() {
        edges.terms(6, 13, "18 OFF: the machine goes OFF. 0.");
        Bench bench = new Bench(1);
        edges.are("OFF", "0 0 1", bench.house.count(1), bench.call(18), bench.house.count(1));
        edges.are("again", "-1 1", bench.call(18), bench.house.count(1));
        bench = running();
        edges.are("while a THREAD runs", "0 2 0", bench.call(18), bench.house.thread(0, 0), bench.house.run(1));
    }

    private void slice() {
        edges.terms(6, 13, "19 SLICE of this hart is p, 0 .. 100,000 (0 at first). 0.");
        for (int slice : new int[] {0, 1, 99999, 100000}) {
            edges.is("SLICE " + slice, 0, ready().call(19, slice));
        }
        for (int slice : new int[] {-1, 100001, MIN, MAX}) {
            edges.refused("SLICE " + slice, SystemCallEdges::ready, -1, 19, slice);
        }
        Bench bench = ready();
        bench.house.secret(0, 0, 0x6f);
        for (int i = 1; i < 4; i++) {
            bench.house.secret(0, i, 0);
        }
        bench.call(5, 0);
        bench.house.run(2000);
        edges.is("at first there is none", 2, bench.house.thread(0, 0));
        // Each run() is 2,000 steps of the THREAD.
        bench = ready();
        bench.house.secret(0, 0, 0x6f);
        for (int i = 1; i < 4; i++) {
            bench.house.secret(0, i, 0);
        }
        bench.call(19, 100000);
        bench.call(5, 0);
        for (int i = 0; i < 50; i++) {
            bench.house.run(2000);
        }
        edges.is("so many steps", 2, bench.house.thread(0, 0));
        bench.house.run(1);
        edges.are("and no more", "3 4", bench.house.thread(0, 0), bench.house.register(0, 10));
    }

    private void offer() {
        edges.terms(6, 13, "20 OFFER enclave p: SPAN q, r, as EXTRA. STATE: not READY. OVERLAP. FULL. All bytes of "
            + "it are 0 then; the REGION. 21");
        for (int enclave : NO_ENCLAVES) {
            edges.refused("enclave " + enclave, SystemCallEdges::ready, -1, 20, enclave, 0xa000, 256);
        }
        edges.refused("LOADING", SystemCallEdges::loading, -2, 20, 0, 0xa000, 256);
        edges.refused("STOPPED", SystemCallEdges::stopped, -2, 20, 0, 0xa000, 256);
        edges.refused("OVERLAP", SystemCallEdges::ready, -4, 20, 0, BASE + 256, 256);
        edges.refused("FULL", SystemCallEdges::full, -5, 20, 0, 0, 256);
        Bench bench = ready();
        bench.house.poke(0x9ffc, 1, 2, 3, 4, 5);
        bench.house.poke(0xa1fc, 6, 7, 8, 9, 10);
        edges.are("OFFER", "1 4 40960 512 0 -1 0", bench.call(20, 0, 0xa000, 512), bench.house.region(1, 0),
            bench.house.region(1, 1), bench.house.region(1, 2), bench.house.region(1, 3), bench.house.region(1, 4),
            bench.house.region(1, 5));
        edges.are("all bytes are 0, and no more", "1 0 0 7", bench.house.inner(0x9ffc), bench.house.inner(0xa000),
            bench.house.inner(0xa1fc), bench.house.inner(0xa200));
        edges.are("it is not OPEN", "0 -1", bench.house.word(0xa000), bench.house.poke(0xa000, 1, 1, 1, 1, 1));
    }

    private void keys() {
        edges.terms(6, 13, "21 KEYS: the key that waits longest for the system; 256: none does. Of THREADS");
        Bench bench = new Bench(1);
        edges.is("none", 256, bench.call(21));
        for (int key : new int[] {255, 0, 7}) {
            bench.house.type(key);
        }
        edges.are("in order, on any hart", "255 0 7 256", bench.call(21), bench.house.call(1, 21, 0, 0, 0, 0),
            bench.call(21), bench.call(21));
        Agent agent = new Agent(bench, BASE);
        agent.ask(45);
        bench.house.type(9);
        edges.is("a key on the PATH is none of these", 256, bench.call(21));
    }
}
