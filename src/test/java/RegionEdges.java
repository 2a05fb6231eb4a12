/** The document's Terms, section 4 REGIONS AND ENTRIES. */
final class RegionEdges {
    private static final int MIN = Integer.MIN_VALUE;
    private static final int MAX = Integer.MAX_VALUE;

    private final Edges edges;

    private RegionEdges(Edges itsEdges) {
        edges = itsEdges;
    }

    static void all(Edges edges) {
        RegionEdges of = new RegionEdges(edges);
        of.numbers();
        of.sorts();
        of.sizes();
        of.noByteInCommon();
        of.open();
        of.rowOfEntries();
        of.entriesOfTheSystem();
        of.entriesOfAThread();
        of.letThroughByOne();
        of.letThroughByRights();
        of.withoutAnEntry();
    }

    /** One enclave, LOADING, at 0x8000, and 11 SHARED REGIONS behind it. */
    static Bench twelveRegions() {
        Bench bench = new Bench(1);
        bench.call(1, 0x8000, 256);
        for (int i = 1; i < 12; i++) {
            bench.call(9, 0, 0xa000 + 256 * i, 256);
        }
        return bench;
    }

    private void numbers() {
        edges.terms(4, 20, "4 REGIONS AND ENTRIES. REGIONS are 0 .. 11; ");
        Bench bench = twelveRegions();
        for (int i = 0; i < 12; i++) {
            edges.is("REGION " + i, i == 0 ? 1 : 2, bench.house.region(i, 0));
        }
        for (int i : new int[] {-1, 12, MIN, MAX}) {
            edges.is("REGION " + i, -1, bench.house.region(i, 0));
            edges.is("DROP of REGION " + i, -1, bench.call(11, i));
        }
        edges.is("in all", 12, bench.house.count(3));
    }

    private void sorts() {
        edges.terms(4, 20, "each that there is has a SORT (1 PRIVATE, of one enclave; 2 SHARED, of the system and an "
            + "enclave; 3 a LINK, of two enclaves; 4 EXTRA, of one enclave), a base ");
        Bench bench = new Bench(1);
        bench.call(1, 0x8000, 256);
        bench.call(1, 0x8100, 256);
        bench.call(4, 1, 0);
        bench.call(9, 1, 0x8200, 256);
        bench.call(10, 1, 0, 0x8300, 256);
        bench.call(20, 1, 0x8400, 256);
        int[][] due = {{1, 0x8000, 256, 0, -1, 0}, {1, 0x8100, 256, 1, -1, 0}, {2, 0x8200, 256, 1, -1, 0},
            {3, 0x8300, 256, 1, 0, 0},
            {4, 0x8400, 256, 1, -1, 0}, {0, -1, -1, -1, -1, -1}};
        for (int i = 0; i < due.length; i++) {
            for (int what = 0; what < 6; what++) {
                edges.is("REGION " + i + ", " + what, due[i][what], bench.house.region(i, what));
            }
        }
    }

    private void sizes() {
        edges.terms(4, 13, "and a size: 256, 512, .. 32,768 bytes from a multiple of the size on.");
        for (int size = 256; size <= 32768; size *= 2) {
            for (int base : new int[] {0, size, 131072 - size}) {
                Bench bench = new Bench(1);
                edges.is("a size of " + size + " at " + base, 0, bench.call(1, base, size));
                edges.are("where it is", base + " " + size, bench.house.region(0, 1), bench.house.region(0, 2));
            }
            int[] bases = {size / 2, size - 1, size + 1, size + 4, 131072, 131072 - size / 2, -size, -256, -1, MIN,
                MAX, MAX - size + 1};
            for (int base : bases) {
                edges.is("a size of " + size + " at " + base, -1, new Bench(1).call(1, base, size));
            }
        }
        int[] sizes = {0, 1, 4, 64, 128, 255, 257, 384, 768, 1000, 32767, 32769, 49152, 65536, 131072, 1 << 30, -256,
            -1, -32768, MIN, MAX};
        for (int size : sizes) {
            edges.is("no size " + size, -1, new Bench(1).call(1, 0, size));
            edges.is("no size " + size + " of what is SHARED", -1, twelveRegions().call(9, 0, 0, size));
        }
    }

    private void noByteInCommon() {
        edges.terms(4, 13, "No two have a byte in common.");
        int[][] given = {{0x8000, 256, 0}, {0x8100, 256, 0}, {0x8200, 256, -4}, {0x8300, 256, -4}, {0x8400, 256, 0},
            {0x8200, 512, -4},
            {0x8000, 512, 0}, {0x8000, 1024, -4}, {0x8000, 32768, -4}, {0x8400, 1024, 0}};
        for (int[] one : given) {
            Bench bench = new Bench(1);
            bench.call(1, 0x8200, 512);
            bench.call(4, 0, 0);
            edges.is("CREATE at " + one[0] + ", " + one[1], one[2] < 0 ? -4 : 1, bench.call(1, one[0], one[1]));
            bench = new Bench(1);
            bench.call(1, 0, 256);
            bench.call(1, 256, 256);
            bench.call(9, 0, 0x8200, 512);
            bench.call(4, 0, 0);
            edges.is("SHARE at " + one[0] + ", " + one[1], one[2] < 0 ? -4 : 3, bench.call(9, 0, one[0], one[1]));
            bench.call(11, 3);
            edges.is("LINK at " + one[0] + ", " + one[1], one[2] < 0 ? -4 : 3, bench.call(10, 0, 1, one[0], one[1]));
            bench.call(11, 3);
            edges.is("OFFER at " + one[0] + ", " + one[1], one[2] < 0 ? -4 : 3, bench.call(20, 0, one[0], one[1]));
        }
    }

    private void open() {
        edges.terms(4, 4, "What is in none, and SHARED ones, are OPEN (to the system).");
        Bench bench = new Bench(1);
        for (int place = 0x8000; place < 0x8600; place += 0x100) {
            bench.house.poke(place, 0, 0, 0, 0, place);
        }
        bench.call(1, 0x8100, 256);
        bench.call(1, 0x8500, 256);
        bench.call(4, 0, 0);
        bench.call(9, 0, 0x8200, 256);
        bench.call(10, 0, 1, 0x8300, 256);
        bench.call(20, 0, 0x8400, 256);
        boolean[] open = {true, false, true, false, false, false};
        for (int i = 0; i < 6; i++) {
            int place = 0x8000 + 256 * i;
            edges.is("word at " + place, open[i] ? place : 0, bench.house.word(place + 16));
            edges.is("poke at its beginning", open[i] ? 0 : -1, bench.house.poke(place, 1, 1, 1, 1, 1));
            edges.is("poke at its end", open[i] ? 0 : -1, bench.house.poke(place + 236, 1, 1, 1, 1, 1));
        }
        bench.call(11, 4);
        bench.call(11, 3);
        edges.are("what was a LINK or EXTRA is in none", "0 0", bench.house.poke(0x8300, 1, 1, 1, 1, 1),
            bench.house.poke(0x84ec, 1, 1, 1, 1, 1));
    }

    private void rowOfEntries() {
        edges.terms(4, 21, "ENTRIES of a hart are a row, each of a base, a size and RIGHTS (1 load, 2 store, 4 "
            + "fetch).");
        EnclaveHouse house = new EnclaveHouse(1);
        edges.is("ENTRY 0", "0 131072 7", entry(house, 0, 0));
        for (int i : new int[] {-1, 1, 12, MIN, MAX}) {
            edges.is("ENTRY " + i, "-1 -1 -1", entry(house, 1, i));
        }
        for (int what : new int[] {-1, 3, MIN, MAX}) {
            edges.is("what " + what, -1, house.entry(0, 0, what));
        }
    }

    private static String entry(EnclaveHouse house, int hart, int i) {
        return house.entry(hart, i, 0) + " " + house.entry(hart, i, 1) + " " + house.entry(hart, i, 2);
    }

    private void entriesOfTheSystem() {
        edges.terms(4, 21, "With the system: for each REGION that is not OPEN, by numbers, one without RIGHTS; then "
            + "one of all MEMORY with all.");
        Bench bench = new Bench(1);
        bench.call(1, 0x9000, 256);
        bench.call(1, 0x8000, 512);
        bench.call(4, 0, 0);
        bench.call(9, 0, 0xa000, 256);
        bench.call(20, 0, 0x1ff00, 256);
        bench.call(10, 0, 1, 0, 1024);
        String[] due = {"36864 256 0", "32768 512 0", "130816 256 0", "0 1024 0", "0 131072 7", "-1 -1 -1"};
        for (int hart = 0; hart < 2; hart++) {
            for (int i = 0; i < due.length; i++) {
                edges.is("ENTRY " + i, due[i], entry(bench.house, hart, i));
            }
        }
        bench = new Bench(1);
        bench.call(1, 0, 256);
        bench.call(4, 0, 0);
        for (int i = 1; i < 12; i++) {
            bench.call(20, 0, 512 * i, 256);
        }
        edges.is("with twelve REGIONS, the last one of them", "5632 256 0", entry(bench.house, 0, 11));
        edges.is("with twelve REGIONS, all MEMORY", "0 131072 7", entry(bench.house, 0, 12));
        edges.is("with twelve REGIONS, no more", "-1 -1 -1", entry(bench.house, 0, 13));
    }

    private void entriesOfAThread() {
        edges.terms(4, 21, "With a THREAD: its enclave's PRIVATE REGION with all; then each SHARED REGION, LINK, "
            + "EXTRA of it that it ACCEPTED, by numbers, with load and store (EXTRA with all).");
        Bench bench = new Bench(1);
        bench.call(1, 0x7000, 256);
        Agent agent = new Agent(bench, 0x8000);
        bench.call(20, agent.enclave, 0x9000, 256);
        bench.call(10, 0, agent.enclave, 0xa000, 512);
        bench.call(9, agent.enclave, 0xb000, 256);
        bench.call(9, 0, 0xc000, 256);
        agent.ask(38, 5);
        agent.ask(38, 3);
        bench.call(6, agent.thread, 0);
        String[] due = {"32768 1024 7", "123136 256 3", "36864 256 7", "45056 256 3", "-1 -1 -1"};
        for (int i = 0; i < due.length; i++) {
            edges.is("ENTRY " + i + ", a LINK and another's SHARED REGION are not ACCEPTED", due[i],
                entry(bench.house, 0, i));
        }
        edges.is("the other hart has the system", "28672 256 0", entry(bench.house, 1, 0));
        bench.house.run(10);
        agent.ask(38, 4);
        bench.call(6, agent.thread, 0);
        edges.is("the LINK is ACCEPTED", "40960 512 3", entry(bench.house, 0, 3));
        edges.is("what is behind it", "45056 256 3", entry(bench.house, 0, 4));
        bench.house.call(1, 11, 3, 0, 0, 0);
        edges.is("EXTRA is no more", "40960 512 3", entry(bench.house, 0, 2));
    }

    private void letThroughByOne() {
        edges.terms(4, 14, "Bytes are LET THROUGH for an access by the first ENTRY that has one of them: if that has "
            + "them all and the right; ");
        int[][] given = {{0x8000 - 4, 5}, {0x8000, 0}, {0x80fc, 0}, {0x8100, 5}};
        for (int[] one : given) {
            Bench bench = new Bench(1);
            int thread = bench.enclave(0x8000, 256, 0, new Code().set(5, one[0]).load(2, 6, 5, 0).exit(0));
            bench.enter(thread, 0, 0);
            edges.are("a THREAD's word at " + one[0], one[1] == 0 ? "0 0" : "3 " + one[1], bench.house.register(0, 10),
                bench.house.register(0, 11));
            Steps steps = new Steps(Code.byNumber(3, 7, 2, 5, 0)).set(5, one[0]);
            steps.house.call(0, 1, 0x8000, 256, 0, 0);
            edges.is("the system's word at " + one[0], one[1] == 0 ? "5 " + one[0] : "none", steps.run(1).trap());
        }
    }

    /** A THREAD loads, stores and fetches in what it ACCEPTED, or did not. */
    private void letThroughByRights() {
        edges.terms(4, 14, "if that has them all and the right; ");
        int[] words = {Code.byNumber(3, 7, 2, 5, 0), Code.storing(2, 5, 6, 0), Code.byNumber(103, 1, 0, 5, 0)};
        int[] denials = {5, 7, 1};
        for (int sort = 2; sort < 5; sort++) {
            for (int accepted = 0; accepted < 2; accepted++) {
                for (int access = 0; access < 3; access++) {
                    Bench bench = new Bench(1);
                    bench.call(1, 0x7000, 256);
                    Code code = new Code().set(17, accepted == 1 ? 38 : 99).word(Code.CALL).set(5, 0xa000)
                        .word(words[access]).exit(0);
                    int thread = bench.enclave(0x8000, 256, 0, code);
                    int region = sort == 2 ? bench.call(9, 1, 0xa000, 256)
                        : sort == 3 ? bench.call(10, 0, 1, 0xa000, 256) : bench.call(20, 1, 0xa000, 256);
                    bench.enter(thread, region, 0);
                    boolean may = accepted == 1 && (access < 2 || sort == 4);
                    // What it goes on at is 0 everywhere, which is ILLEGAL.
                    String due = !may ? "3 " + denials[access] : access == 2 ? "3 2" : "0 0";
                    edges.are("SORT " + sort + ", ACCEPTED " + accepted + ", access " + access, due,
                        bench.house.register(0, 10), bench.house.register(0, 11));
                }
            }
        }
    }

    private void withoutAnEntry() {
        edges.terms(4, 14, "without such an ENTRY, or a byte of MEMORY, they are not.");
        for (int place : new int[] {0, 0x7ffc, 0x9000, 131068, 131072, -4, MIN}) {
            Bench bench = new Bench(1);
            bench.call(1, 0x9000, 256);
            int thread = bench.enclave(0x8000, 256, 0, new Code().set(5, place).store(2, 5, 6, 0).exit(0));
            bench.enter(thread, 0, 0);
            edges.are("a THREAD's store at " + place, "3 7", bench.house.register(0, 10), bench.house.register(0, 11));
        }
        for (int place : new int[] {131072, -4, MIN}) {
            edges.is("the system's load at " + place, "5 " + place, new Steps(Code.byNumber(3, 7, 2, 5, 0))
                .set(5, place).run(1).trap());
        }
        Bench bench = new Bench(1);
        Agent agent = new Agent(bench, 0x1fc00);
        edges.is("32 bytes that end with MEMORY", 0, agent.ask(39, 131072 - 32));
        edges.is("32 bytes that end one byte behind it", -1, agent.ask(39, 131072 - 31));
        edges.is("32 bytes that begin behind it", -1, agent.ask(39, 131072));
        bench = new Bench(1);
        agent = new Agent(bench, 0);
        edges.is("32 bytes that wrap around to place 0", -1, agent.ask(49, -16));
        edges.is("32 bytes at place 0", 0, agent.ask(49, 0));
    }
}
