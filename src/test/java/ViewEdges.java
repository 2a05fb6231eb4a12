/** The document's promises 15 to 28 (27 is with OUTSIDE), sentence by sentence. */
final class ViewEdges {
    private static final int MIN = Integer.MIN_VALUE;
    private static final int MAX = Integer.MAX_VALUE;
    private static final int BASE = 0x8000;
    private static final int[] NO_HARTS = {-1, 2, MIN, MAX};

    private final Edges edges;

    private ViewEdges(Edges itsEdges) {
        edges = itsEdges;
    }

    static void all(Edges edges) {
        ViewEdges of = new ViewEdges(edges);
        of.type();
        of.typeRefused();
        of.panel();
        of.line();
        of.enclave();
        of.noEnclave();
        of.thread();
        of.noThread();
        of.region();
        of.noRegion();
        of.entry();
        of.noEntry();
        of.event();
        of.noEvent();
        of.console();
        of.disk();
        of.diskRefused();
        of.digest();
        of.digestRefused();
        of.genuine();
        of.counts();
        of.countsOfHarts();
        of.noCount();
    }

    private void type() {
        edges.promise(15, "The user types a key: 1 if it waits on the PATH now, 0 if for the system.");
        Bench bench = new Bench(1);
        Agent agent = new Agent(bench, BASE);
        for (int key : new int[] {0, 1, 254, 255}) {
            edges.is("for the system", 0, bench.house.type(key));
        }
        agent.ask(45);
        for (int key : new int[] {0, 1, 254, 255}) {
            edges.is("on the PATH", 1, bench.house.type(key));
        }
        edges.are("how many", "4 4", bench.house.count(19), bench.house.count(21));
        edges.are("TYPED", "0 1 254 255", agent.ask(48), agent.ask(48), agent.ask(48), agent.ask(48));
        agent.ask(46);
        edges.is("for the system again", 0, bench.house.type(7));
        edges.are("KEYS", "0 1 254 255 7", bench.call(21), bench.call(21), bench.call(21), bench.call(21),
            bench.call(21));
    }

    private void typeRefused() {
        edges.promise(15, "NONE: it is no key, or lost.");
        EnclaveHouse house = new EnclaveHouse(1);
        for (int key : new int[] {-1, 256, 257, MIN, MAX}) {
            edges.are("no key " + key, "-1 0", house.type(key), house.count(19));
        }
        for (int i = 0; i < 16; i++) {
            house.type(i);
        }
        edges.are("lost", "-1 16", house.type(5), house.count(19));
        edges.is("the first one is there", 0, house.call(0, 21, 0, 0, 0, 0));
    }

    private void panel() {
        edges.promise(16, "Byte i of the PANEL, as the user sees it; NONE.");
        Bench bench = new Bench(1);
        Agent agent = new Agent(bench, BASE);
        edges.are("empty", "-1 -1", bench.house.panel(0), bench.house.panel(63));
        agent.ask(45);
        agent.ask(47, 0);
        agent.ask(47, 255);
        agent.ask(47, 256 + 65);
        edges.are("three bytes", "0 255 65", bench.house.panel(0), bench.house.panel(1), bench.house.panel(2));
        for (int i : new int[] {-1, 3, 63, 64, MIN, MAX}) {
            edges.is("byte " + i, -1, bench.house.panel(i));
        }
        agent.ask(46);
        edges.is("released", -1, bench.house.panel(0));
    }

    private void line() {
        edges.promise(17, "The LINE goes on or off: whether it was on.");
        EnclaveHouse house = new EnclaveHouse(1);
        boolean[] given = {false, true, true, false, false, true};
        boolean was = false;
        for (boolean on : given) {
            edges.is("it was", was, house.line(on));
            edges.are("PENDING", on ? "512 512" : "0 0", house.control(0, 0x144), house.control(1, 0x144));
            was = on;
        }
        house.boot(0);
        edges.is("behind boot", false, house.line(true));
    }

    private static String enclaveOf(EnclaveHouse house, int enclave) {
        StringBuilder text = new StringBuilder();
        for (int what = 0; what < 8; what++) {
            text.append(what == 0 ? "" : " ").append(house.enclave(enclave, what));
        }
        return text.toString();
    }

    private void enclave() {
        edges.promise(18, "Of an enclave: what = 0 its state (0: none), 1 base, 2 size, 3 FLAGS (-1 while LOADING), "
            + "4 THREADS, 5 GENERATION, 6 whether its BOX has a mail (1 or 0), 7 how often it asked for RANDOM bytes.");
        Bench bench = new Bench(1);
        edges.is("none", "0 -1 -1 -1 -1 0 -1 -1", enclaveOf(bench.house, 0));
        bench.call(1, 0, 256);
        edges.is("LOADING", "1 0 256 -1 0 1 0 0", enclaveOf(bench.house, 0));
        bench.call(3, 0, 0, 0);
        bench.call(3, 0, 0, 0);
        bench.call(4, 0, 1);
        edges.is("READY", "2 0 256 1 2 1 0 0", enclaveOf(bench.house, 0));
        Agent agent = new Agent(bench, BASE);
        agent.ask(40, 0, BASE + 0x200);
        agent.ask(36, BASE + 0x200, 1);
        agent.ask(36, BASE + 0x200, 32);
        edges.is("it has a mail", "2 0 256 1 2 1 1 0", enclaveOf(bench.house, 0));
        edges.is("it asked twice", "2 32768 1024 0 1 1 0 2", enclaveOf(bench.house, 1));
        bench.call(7, 0);
        edges.is("STOPPED", "3 0 256 1 2 1 1 0", enclaveOf(bench.house, 0));
        bench.call(8, 0);
        edges.is("none, but its GENERATION", "0 -1 -1 -1 -1 1 -1 -1", enclaveOf(bench.house, 0));
        bench.call(1, 65536, 32768);
        edges.is("the next one", "1 65536 32768 -1 0 2 0 0", enclaveOf(bench.house, 0));
    }

    private void noEnclave() {
        edges.promise(18, "NONE: no such number or what; but for 0 and 5, if it is not there.");
        Bench bench = ThreadEdges.sixEnclaves();
        for (int what : new int[] {-1, 8, 9, MIN, MAX}) {
            edges.are("what " + what, "-1 -1", bench.house.enclave(0, what), bench.house.enclave(5, what));
        }
        for (int enclave : new int[] {-1, 6, MIN, MAX}) {
            edges.is("enclave " + enclave, "-1 -1 -1 -1 -1 -1 -1 -1", enclaveOf(bench.house, enclave));
        }
        bench.house.boot(0);
        edges.are("it is not there", "-1 -1", bench.house.enclave(0, -1), bench.house.enclave(0, 8));
    }

    private static String threadOf(EnclaveHouse house, int thread) {
        StringBuilder text = new StringBuilder();
        for (int what = 0; what < 5; what++) {
            text.append(what == 0 ? "" : " ").append(house.thread(thread, what));
        }
        return text.toString();
    }

    private void thread() {
        edges.promise(19, "Of a THREAD: what = 0 its state (0: none), 1 its enclave, 2 the hart on which it runs "
            + "(NONE), 3 entry, 4 stack.");
        Bench bench = new Bench(1);
        edges.is("none", "0 -1 -1 -1 -1", threadOf(bench.house, 0));
        bench.call(1, 0x9000, 256);
        bench.call(1, BASE, 256);
        bench.call(3, 1, 252, 256);
        edges.is("IDLE", "1 1 -1 252 256", threadOf(bench.house, 0));
        bench.call(4, 1, 0);
        for (int hart = 0; hart < 2; hart++) {
            bench.house.call(hart, hart == 0 ? 5 : 6, 0, 0, 0, 0);
            edges.is("RUNNING on hart " + hart, "2 1 " + hart + " 252 256", threadOf(bench.house, 0));
            bench.house.setControl(hart, 0x104, 2);
            bench.house.setControl(hart, 0x144, 2);
            bench.house.run(1);
            edges.is("INTERRUPTED", "3 1 -1 252 256", threadOf(bench.house, 0));
        }
        bench.call(7, 1);
        edges.is("of a STOPPED one", "3 1 -1 252 256", threadOf(bench.house, 0));
        bench.call(8, 1);
        edges.is("none", "0 -1 -1 -1 -1", threadOf(bench.house, 0));
    }

    private void noThread() {
        edges.promise(19, "NONE: no such number or what; but for 0, if it is not there.");
        Bench bench = new Bench(1);
        bench.call(1, BASE, 256);
        bench.call(3, 0, 0, 0);
        for (int what : new int[] {-1, 5, 6, MIN, MAX}) {
            edges.are("what " + what, "-1 -1", bench.house.thread(0, what), bench.house.thread(1, what));
        }
        edges.is("it is not there", "0 -1 -1 -1 -1", threadOf(bench.house, 11));
        for (int thread : new int[] {-1, 12, MIN, MAX}) {
            edges.is("THREAD " + thread, "-1 -1 -1 -1 -1", threadOf(bench.house, thread));
        }
    }

    private static String regionOf(EnclaveHouse house, int region) {
        StringBuilder text = new StringBuilder();
        for (int what = 0; what < 6; what++) {
            text.append(what == 0 ? "" : " ").append(house.region(region, what));
        }
        return text.toString();
    }

    private void region() {
        edges.promise(20, "Of a REGION: what = 0 its SORT (0: none), 1 base, 2 size, 3 its enclave, 4 the other "
            + "enclave of a LINK (NONE), 5 who ACCEPTED it: 1 the first, 2 the other one, together.");
        Bench bench = new Bench(1);
        Agent first = new Agent(bench, BASE);
        Agent second = new Agent(bench, 0x9000);
        edges.is("PRIVATE", "1 32768 1024 0 -1 0", regionOf(bench.house, 0));
        edges.is("SHARED and ACCEPTED", "2 122880 256 0 -1 1", regionOf(bench.house, 1));
        edges.is("of the second one", "2 123136 256 1 -1 1", regionOf(bench.house, 3));
        bench.call(10, 1, 0, 0xa000, 512);
        edges.is("LINK", "3 40960 512 1 0 0", regionOf(bench.house, 4));
        first.ask(38, 4);
        edges.is("ACCEPTED by the other one", "3 40960 512 1 0 2", regionOf(bench.house, 4));
        second.ask(38, 4);
        edges.is("by both", "3 40960 512 1 0 3", regionOf(bench.house, 4));
        bench.call(10, 1, 0, 0xa200, 512);
        second.ask(38, 5);
        edges.is("by the first", "3 41472 512 1 0 1", regionOf(bench.house, 5));
        bench.call(20, 1, 131072 - 256, 256);
        edges.is("EXTRA", "4 130816 256 1 -1 0", regionOf(bench.house, 6));
        second.ask(38, 6);
        edges.is("ACCEPTED", "4 130816 256 1 -1 1", regionOf(bench.house, 6));
        edges.is("none", "0 -1 -1 -1 -1 -1", regionOf(bench.house, 7));
    }

    private void noRegion() {
        edges.promise(20, "NONE: no such number or what; but for 0, if it is not there.");
        Bench bench = RegionEdges.twelveRegions();
        for (int what : new int[] {-1, 6, 7, MIN, MAX}) {
            edges.are("what " + what, "-1 -1", bench.house.region(0, what), bench.house.region(11, what));
        }
        for (int region : new int[] {-1, 12, MIN, MAX}) {
            edges.is("REGION " + region, "-1 -1 -1 -1 -1 -1", regionOf(bench.house, region));
        }
        bench.call(11, 11);
        edges.is("it is not there", "0 -1 -1 -1 -1 -1", regionOf(bench.house, 11));
        edges.are("it is not there", "-1 -1", bench.house.region(11, 6), bench.house.region(11, -1));
    }

    private void entry() {
        edges.promise(21, "Of ENTRY i of a hart, as it is now: what = 0 base, 1 size, 2 RIGHTS.");
        Bench bench = new Bench(1);
        edges.are("at first", "0 131072 7", bench.house.entry(0, 0, 0), bench.house.entry(0, 0, 1),
            bench.house.entry(0, 0, 2));
        int thread = bench.enclave(BASE, 256, 0, new Code().call(33, 0, 0).word(0));
        edges.is("an enclave came", "32768 256 0, 0 131072 7", row(bench, 0) + ", " + row(bench, 1));
        bench.call(5, thread, 0, 0);
        edges.is("its THREAD runs", "32768 256 7, -1 -1 -1", row(bench, 0) + ", " + row(bench, 1));
        edges.is("not on the other hart", 0, bench.house.entry(1, 0, 2));
        bench.house.run(7);
        edges.is("it ran", "32768 256 0, 0 131072 7", row(bench, 0) + ", " + row(bench, 1));
        bench.call(7, 0);
        bench.call(8, 0);
        edges.is("the enclave is no more", "0 131072 7, -1 -1 -1", row(bench, 0) + ", " + row(bench, 1));
    }

    private static String row(Bench bench, int i) {
        return bench.house.entry(0, i, 0) + " " + bench.house.entry(0, i, 1) + " " + bench.house.entry(0, i, 2);
    }

    private void noEntry() {
        edges.promise(21, "NONE: there is none such.");
        Bench bench = new Bench(1);
        int thread = bench.enclave(BASE, 256, 0, new Code().word(Code.jumping(0, 0)));
        bench.house.call(1, 5, thread, 0, 0, 0);
        for (int hart = 0; hart < 2; hart++) {
            for (int i : new int[] {-1, 2 - hart, 3, 12, 13, MIN, MAX}) {
                edges.are("ENTRY " + i, "-1 -1 -1", bench.house.entry(hart, i, 0), bench.house.entry(hart, i, 1),
                    bench.house.entry(hart, i, 2));
            }
            for (int what : new int[] {-1, 3, 4, MIN, MAX}) {
                edges.is("what " + what, -1, bench.house.entry(hart, 0, what));
            }
        }
        for (int hart : NO_HARTS) {
            edges.is("hart " + hart, -1, bench.house.entry(hart, 0, 0));
        }
    }

    private void event() {
        edges.promise(22, "Of EVENT i: what = 0 its sort, 1 TIME, 2 hart, 3 THREAD, 4 enclave, 5 to 7 p, q, r.");
        Bench bench = new Bench(1);
        bench.call(1, 0x7000, 256);
        bench.call(3, 0, 0, 0);
        bench.call(3, 0, 0, 0);
        int thread = bench.enclave(BASE, 256, 0, new Code().set(17, 38).word(Code.CALL).set(5, 0xa000)
            .store(1, 5, 5, 2).exit(-9));
        int region = bench.call(9, 1, 0xa000, 256);
        bench.house.run(3);
        bench.house.call(1, 5, thread, region, 0, 0);
        bench.house.run(20);
        edges.is("ACCEPT", "5 5 1 2 1 2 0 0", bench.event(0));
        edges.is("a store", "4 8 1 2 1 40962 40960 2", bench.event(1));
        edges.is("EXIT", "1 15 1 2 1 -9 0 0", bench.event(2));
    }

    private void noEvent() {
        edges.promise(22, "0: none such is kept.");
        Bench bench = new Bench(1);
        int thread = bench.enclave(BASE, 256, 0, new Code().exit(-9));
        bench.enter(thread, 0, 0);
        bench.enter(thread, 0, 0);
        for (int i : new int[] {-1, 2, 999, 1000, 1001, MIN, MAX}) {
            edges.is("EVENT " + i, "0 0 0 0 0 0 0 0", bench.event(i));
        }
        for (int what : new int[] {-1, 8, 9, MIN, MAX}) {
            edges.are("what " + what, "0 0", bench.house.event(0, what), bench.house.event(1, what));
        }
        bench.house.boot(0);
        edges.is("behind boot", "0 0 0 0 0 0 0 0", bench.event(0));
    }

    private void console() {
        edges.promise(23, "Byte i of the CONSOLE; NONE.");
        EnclaveHouse house = new EnclaveHouse(1);
        edges.are("empty", "-1 -1", house.console(0), house.console(1023));
        int[] given = {0, 255, 300};
        for (int one : given) {
            house.call(0, 12, one, 0, 0, 0);
        }
        edges.are("three bytes", "0 255 44", house.console(0), house.console(1), house.console(2));
        for (int i : new int[] {-1, 3, 1023, 1024, MIN, MAX}) {
            edges.is("byte " + i, -1, house.console(i));
        }
    }

    private void disk() {
        edges.promise(24, "Byte k (0 .. 255) of a sector of THE DISK becomes v (0 .. 255), -1: it stays: what it was.");
        EnclaveHouse house = new EnclaveHouse(1);
        for (int[] one : new int[][] {{0, 0}, {0, 255}, {31, 0}, {31, 255}, {7, 130}}) {
            edges.are("it was", "0 255 0 129 129", house.disk(one[0], one[1], 255), house.disk(one[0], one[1], 0),
                house.disk(one[0], one[1], 129), house.disk(one[0], one[1], -1), house.disk(one[0], one[1], -1));
        }
        edges.are("those beside one", "0 0", house.disk(7, 129, -1), house.disk(7, 131, -1));
    }

    private void diskRefused() {
        edges.promise(24, "NONE: no such one.");
        EnclaveHouse house = new EnclaveHouse(1);
        long before = house.outside();
        // Times 256, the last two wrap around to sectors 0 and 31.
        for (int none : new int[] {-1, 32, 33, MIN, MAX, 1 << 24, MIN + 31}) {
            edges.are("sector " + none, "-1 -1", house.disk(none, 0, 5), house.disk(none, 0, -1));
        }
        for (int none : new int[] {-1, 256, 257, MIN, MAX}) {
            edges.are("byte " + none, "-1 -1 -1", house.disk(0, none, 5), house.disk(0, none, -1),
                house.disk(1, none, 5));
        }
        for (int none : new int[] {-2, 256, MIN, MAX}) {
            edges.is("v " + none, -1, house.disk(0, 0, none));
        }
        edges.is("all as it was", before, house.outside());
    }

    private void digest() {
        edges.promise(25, "Word k (0 .. 7, its highest byte being the earliest) of SHA-256 of n bytes (0 .. 4,096) "
            + "from a place on (0 .. 131,072 less n), as word() shows them.");
        Bench bench = new Bench(1);
        bench.house.poke(131052, 1, 2, 3, 4, -5);
        bench.house.poke(0, 6, 7, 8, 9, 10);
        int[][] given = {{0, 0}, {131072, 0}, {0, 1}, {131071, 1}, {0, 4096}, {131072 - 4096, 4096},
            {131072 - 4095, 4095}, {3, 7}};
        for (int[] one : given) {
            byte[] bytes = new byte[one[1]];
            for (int i = 0; i < one[1]; i++) {
                int place = one[0] + i;
                int[] near = {6, 7, 8, 9, 10};
                int[] far = {1, 2, 3, 4, -5};
                int word = place < 20 ? near[place / 4] : place >= 131052 ? far[(place - 131052) / 4] : 0;
                bytes[i] = (byte) (word >>> 8 * (place & 3));
            }
            for (int k = 0; k < 8; k++) {
                edges.is(one[1] + " bytes from " + one[0] + ", word " + k, Bench.word(Bench.sha(bytes), k),
                    bench.house.digest(one[0], one[1], k));
            }
        }
        bench.call(1, BASE, 256);
        bench.house.secret(0, 0, 9);
        bench.house.secret(0, 255, 9);
        bench.house.poke(BASE - 20, 0, 0, 0, 0, 0x11000000);
        bench.house.poke(BASE + 256, 0x22, 0, 0, 0, 0);
        byte[] due = new byte[258];
        due[0] = 0x11;
        due[257] = 0x22;
        edges.is("what is not OPEN is 0", Bench.word(Bench.sha(due), 7), bench.house.digest(BASE - 1, 258, 7));
    }

    private void digestRefused() {
        edges.promise(25, "0: another place, n, k.");
        EnclaveHouse house = new EnclaveHouse(1);
        for (int k : new int[] {-1, 8, MIN, MAX}) {
            edges.is("k " + k, 0, house.digest(0, 4, k));
        }
        for (int n : new int[] {-1, 4097, 131072, MIN, MAX}) {
            edges.is("n " + n, 0, house.digest(0, n, 0));
        }
        for (int[] one : new int[][] {{-1, 0}, {-1, 4}, {131073, 0}, {131072, 1}, {131071, 2}, {131072 - 4095, 4096},
            {MIN, 0}, {MAX, 0}, {MAX, 4096}, {MIN, 4096}}) {
            edges.is("place " + one[0] + ", n " + one[1], 0, house.digest(one[0], one[1], 0));
        }
    }

    private void genuine() {
        edges.promise(26, "Whether 128 bytes from a place on, as word() shows them, are a REPORT of this machine's "
            + "as it is now.");
        Bench bench = new Bench(1);
        Agent agent = new Agent(bench, BASE);
        bench.call(9, 0, 0xa000, 512);
        agent.ask(38, 2);
        for (int offset : new int[] {0, 1, 2, 3, 384}) {
            agent.ask(34, BASE + 0x300, 0xa000 + offset);
            edges.is("at " + offset, true, bench.house.genuine(0xa000 + offset));
            edges.is("one byte before it, and behind", false, bench.house.genuine(0xa000
                + offset - 1) || bench.house.genuine(0xa000 + offset + 1));
        }
        byte[] report = bench.innerBytes(0xa180, 128);
        agent.ask(34, BASE + 0x300, BASE + 0x200);
        edges.is("what is not OPEN is 0", false, bench.house.genuine(BASE + 0x200));
        for (int version : new int[] {1, 0}) {
            bench.house.boot(version);
            pokeReport(bench.house, 0x404, report);
            edges.is("behind boot of version " + version, version == 0, bench.house.genuine(0x404));
            pokeReport(bench.house, 131072 - 128, report);
            edges.is("at the end of MEMORY, version " + version, version == 0, bench.house.genuine(131072 - 128));
            pokeReport(bench.house, 0, report);
            edges.is("at its beginning, version " + version, version == 0, bench.house.genuine(0));
        }
        EnclaveHouse other = new EnclaveHouse(2);
        pokeReport(other, 0x404, report);
        edges.is("on another machine", false, other.genuine(0x404));
        for (int at : new int[] {0, 31, 32, 64, 95, 96, 127}) {
            byte[] changed = report.clone();
            changed[at] ^= 1;
            pokeReport(bench.house, 0x404, changed);
            edges.is("byte " + at + " is another one", false, bench.house.genuine(0x404));
        }
        for (int place : new int[] {-1, -128, 131072 - 127, 131071, 131072, MIN, MAX}) {
            edges.is("at " + place, false, bench.house.genuine(place));
        }
    }

    /** 128 bytes are 32 words, poked by fives; the last poke ends with the last word. */
    private static void pokeReport(EnclaveHouse house, int place, byte[] report) {
        for (int i = 0; i < 35; i += 5) {
            int from = Math.min(i, 27);
            int[] five = new int[5];
            for (int k = 0; k < 5; k++) {
                five[k] = Integer.reverseBytes(Bench.word(report, from + k));
            }
            house.poke(place + 4 * from, five[0], five[1], five[2], five[3], five[4]);
        }
    }

    private void counts() {
        edges.promise(28, "What = 0 TIME, 1 whether the machine is OFF (1 or 0), 2 enclaves, 3 REGIONS, 4 THREADS, 5 "
            + "EVENTS in all, 6 bytes of the CONSOLE, 7 DMAs that wait, ");
        Bench bench = ThreadEdges.sixEnclaves();
        EnclaveHouse house = bench.house;
        edges.are("enclaves, REGIONS, THREADS", "6 6 0", house.count(2), house.count(3), house.count(4));
        for (int i = 0; i < 12; i++) {
            bench.call(3, i / 2, 0, 0);
        }
        for (int i = 0; i < 6; i++) {
            bench.call(9, 0, 0xa000 + 256 * i, 256);
        }
        edges.are("all of them", "6 12 12", house.count(2), house.count(3), house.count(4));
        bench.call(8, 0);
        edges.are("one enclave less", "5 5 10", house.count(2), house.count(3), house.count(4));
        bench.call(12, 65);
        bench.call(12, 66);
        bench.call(14, 0, 0, 0x400);
        bench.call(14, 0, 0, 0x400);
        edges.are("TIME, OFF, EVENTS, CONSOLE, DMAs", "0 0 0 2 2", house.count(0), house.count(1), house.count(5),
            house.count(6), house.count(7));
        bench.call(4, 1, 0);
        bench.call(5, 2, 0, 0);
        house.run(5);
        bench.call(18);
        edges.are("later", "5 1 1 2 1", house.count(0), house.count(1), house.count(5), house.count(6), house.count(7));
        edges.promise(28, "16 MEASUREMENTS with a COUNTER, 17 DMAs done and not told, 18 FAILED of these, 19 keys "
            + "that wait for the system, 20 the enclave that has the PATH (NONE), 21 keys that wait on it, 22 bytes "
            + "on the PANEL.");
        bench = new Bench(1);
        house = bench.house;
        edges.is("at first", "0 0 0 0 -1 0 0", counts(house));
        bench.call(1, 0x7000, 256);
        Agent agent = new Agent(bench, BASE);
        agent.ask(42);
        house.type(1);
        agent.ask(45);
        house.type(2);
        house.type(3);
        for (int i = 0; i < 3; i++) {
            agent.ask(47, i);
        }
        bench.call(14, 0, 0, 0x400);
        bench.call(14, 0, 0, BASE);
        house.run(6);
        edges.is("some of each", "1 2 1 1 1 2 3", counts(house));
    }

    private static String counts(EnclaveHouse house) {
        StringBuilder text = new StringBuilder();
        for (int what = 16; what < 23; what++) {
            text.append(what == 16 ? "" : " ").append(house.count(what));
        }
        return text.toString();
    }

    private void countsOfHarts() {
        edges.promise(28, "8 the THREAD on hart 0, 9 on hart 1 (NONE), 10 whether hart 0 WAITS, 11 whether hart 1 "
            + "does, 12 MODE of hart 0, 13 of hart 1, 14 the PC of hart 0, 15 of hart 1 (of the system), ");
        for (int hart = 0; hart < 2; hart++) {
            Bench bench = new Bench(1);
            bench.call(1, 0x7000, 256);
            bench.call(3, 0, 0, 0);
            int thread = bench.enclave(BASE, 256, 0, new Code().word(Code.jumping(0, 0)));
            bench.house.poke(0x100, Code.jumping(0, 0), 0, 0, 0, 0);
            bench.house.poke(0x200, Code.WAIT, 0, 0, 0, 0);
            bench.house.place(hart, 0x200, 1);
            bench.house.place(1 - hart, 0x100, 0);
            bench.house.run(1);
            int[] due = {-1, -1, 1 - hart, hart, hart == 0 ? 1 : 0, hart, hart == 0 ? 0x204 : 0x100,
                hart == 0 ? 0x100 : 0x204};
            for (int what = 8; what < 16; what++) {
                edges.is("count(" + what + ")", due[what - 8], bench.house.count(what));
            }
            bench.house.call(hart, 5, thread, 0, 0, 0);
            bench.house.run(2);
            edges.are("its THREAD, and WAITS, PC as the system's", thread + " -1 0 516", bench.house.count(8 + hart),
                bench.house.count(9 - hart), bench.house.count(10 + hart), bench.house.count(14 + hart));
        }
    }

    private void noCount() {
        edges.promise(28, "NONE: another what.");
        EnclaveHouse house = new EnclaveHouse(1);
        for (int what : new int[] {-1, 23, 24, 64, MIN, MAX}) {
            edges.is("count(" + what + ")", -1, house.count(what));
        }
    }
}
