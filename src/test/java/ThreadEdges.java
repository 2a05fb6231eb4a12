/** The document's Terms, section 5: ENCLAVES, THREADS and EVENTS. */
final class ThreadEdges {
    private static final int MIN = Integer.MIN_VALUE;
    private static final int MAX = Integer.MAX_VALUE;
    private static final int SHARED = 0xa000;
    private static final int LINKED = 0xb000;
    private static final int ENDLESS = Code.jumping(0, 0);

    private final Edges edges;

    private ThreadEdges(Edges itsEdges) {
        edges = itsEdges;
    }

    static void all(Edges edges) {
        ThreadEdges of = new ThreadEdges(edges);
        of.enclaves();
        of.whatEnclavesHave();
        of.generations();
        of.threads();
        of.entered();
        of.enteredWakes();
        of.staysAlone();
        of.exits();
        of.yields();
        of.interrupted();
        of.faults();
        of.resumed();
        of.handled();
        of.handledTwice();
        of.enteredWithoutHandler();
        of.eventsOfEnds();
        of.eventsOfStores();
        of.eventsAtZero();
        of.eventsOfMonitorStores();
        of.noEventsOfOthers();
        of.otherEvents();
        of.firstThousand();
    }

    private static String told(EnclaveHouse house, int hart) {
        return house.register(hart, 10) + " " + house.register(hart, 11) + " " + house.register(hart, 12);
    }

    /** Six enclaves of 256 bytes from 0x8000 on, LOADING. */
    static Bench sixEnclaves() {
        Bench bench = new Bench(1);
        for (int i = 0; i < 6; i++) {
            bench.call(1, 0x8000 + 256 * i, 256);
        }
        return bench;
    }

    /** Three THREADS each of the first four of six enclaves. */
    static Bench twelveThreads() {
        Bench bench = sixEnclaves();
        for (int i = 0; i < 12; i++) {
            bench.call(3, i / 3, 0, 0);
        }
        return bench;
    }

    private void enclaves() {
        edges.terms(5, 18, "5 ENCLAVES are 0 .. 5, each that there is with a state: 1 LOADING, 2 READY, 3 STOPPED; "
            + "its PRIVATE REGION;");
        Bench bench = sixEnclaves();
        bench.call(4, 5, 0);
        bench.call(4, 4, 0);
        bench.call(7, 4);
        for (int i = 0; i < 6; i++) {
            edges.are("enclave " + i, (i == 5 ? 2 : i == 4 ? 3 : 1) + " " + (0x8000 + 256 * i) + " 256",
                bench.house.enclave(i, 0), bench.house.enclave(i, 1), bench.house.enclave(i, 2));
            edges.are("its REGION", "1 " + i, bench.house.region(i, 0), bench.house.region(i, 3));
        }
        for (int i : new int[] {-1, 6, MIN, MAX}) {
            edges.are("enclave " + i, "-1 -1 -1 -1 -1", bench.house.enclave(i, 0), bench.house.enclave(i, 5),
                bench.call(7, i), bench.call(8, i), bench.call(16, i, 0));
        }
    }

    private void whatEnclavesHave() {
        edges.terms(5, 18, "FLAGS (0, 1: DEBUG); a MEASUREMENT (7); a RECORD (32 bytes, 0 when it becomes READY); a "
            + "BOX for one mail; ");
        for (int flags = 0; flags < 2; flags++) {
            Bench bench = new Bench(1);
            Agent agent = new Agent(bench, 0x8000, 0, flags);
            edges.is("FLAGS", flags, bench.house.enclave(0, 3));
            edges.is("DEBUG", flags == 1 ? bench.house.inner(0x8000) : -6, bench.call(17, 0, 0));
            edges.is("MEASUREMENT", Bench.word(agent.measurement(flags), 7), bench.call(16, 0, 7));
        }
        Bench bench = new Bench(1);
        for (int round = 0; round < 2; round++) {
            Agent agent = new Agent(bench, 0x8000);
            edges.is("ATTEST", 0, agent.ask(34, 0x8300, 0x8200));
            edges.is("the RECORD is 0", Bench.hex(new byte[32]), Bench.hex(agent.bytes(0x220, 32)));
            edges.is("EXTEND", 0, agent.ask(49, 0x8300));
            agent.ask(34, 0x8300, 0x8200);
            edges.is("it is another one", Bench.hex(Bench.sha(new byte[64])), Bench.hex(agent.bytes(0x220, 32)));
            bench.call(7, 0);
            bench.call(8, 0);
        }
        Agent first = new Agent(bench, 0x8000);
        Agent second = new Agent(bench, 0x9000);
        edges.is("the BOX is empty", 0, bench.house.enclave(1, 6));
        edges.are("one mail", "0 1", first.ask(40, 1, 0x8300), bench.house.enclave(1, 6));
        edges.is("and no second one", -5, first.ask(40, 1, 0x8300));
        edges.are("it is taken", "1 0", second.ask(41, 0x9300), bench.house.enclave(1, 6));
        edges.is("the next one", 0, first.ask(40, 1, 0x8300));
    }

    private void generations() {
        edges.terms(5, 18, "a GENERATION, which is one more with each enclave of that number (0 before the first).");
        Bench bench = new Bench(1);
        edges.are("before the first", "0 0", bench.house.enclave(0, 5), bench.house.enclave(5, 5));
        bench.call(1, 0x9000, 256);
        for (int i = 1; i < 5; i++) {
            bench.call(1, 0x8000, 256);
            edges.is("enclave " + i + " of number 1", i, bench.house.enclave(1, 5));
            bench.call(8, 1);
            edges.is("it stays behind it", i, bench.house.enclave(1, 5));
        }
        edges.is("of number 0", 1, bench.house.enclave(0, 5));
        bench.call(1, 0x9000, 256);
        edges.is("a refused one does not count", 4, bench.house.enclave(1, 5));
        bench.house.boot(0);
        edges.are("behind boot", "0 0", bench.house.enclave(0, 5), bench.house.enclave(1, 5));
    }

    private void threads() {
        edges.terms(5, 19, "THREADS are 0 .. 11, at most 3 of one enclave, each with an entry and a stack (offsets "
            + "in the REGION) and a state: 1 IDLE, 2 RUNNING (on a hart), 3 INTERRUPTED, 4 YIELDED, 5 DEAD.");
        Bench bench = sixEnclaves();
        for (int i = 0; i < 12; i++) {
            edges.is("THREAD " + i, i, bench.call(3, i / 3, 4 * i, 16 * i));
        }
        for (int i = 0; i < 12; i++) {
            edges.are("what THREAD " + i + " has", "1 " + i / 3 + " -1 " + 4 * i + " " + 16 * i,
                bench.house.thread(i, 0), bench.house.thread(i, 1), bench.house.thread(i, 2), bench.house.thread(i, 3),
                bench.house.thread(i, 4));
        }
        edges.is("a fourth of one enclave", -5, bench.call(3, 0, 0, 0));
        edges.is("a thirteenth", -5, bench.call(3, 5, 0, 0));
        for (int i : new int[] {-1, 12, MIN, MAX}) {
            edges.are("THREAD " + i, "-1 -1 -1", bench.house.thread(i, 0), bench.call(5, i), bench.call(6, i));
        }
        bench = new Bench(1);
        int thread = bench.enclave(0x8000, 256, 0, new Code().call(33, 0, 0).word(Code.NOTHING).word(0));
        edges.are("IDLE", "1 -1", bench.house.thread(thread, 0), bench.house.thread(thread, 2));
        bench.house.call(1, 5, thread, 0, 0, 0);
        edges.are("RUNNING on hart 1", "2 1", bench.house.thread(thread, 0), bench.house.thread(thread, 2));
        bench.house.run(7);
        edges.are("YIELDED", "4 -1", bench.house.thread(thread, 0), bench.house.thread(thread, 2));
        bench.call(6, thread, 0);
        bench.house.setControl(0, 0x104, 2);
        bench.house.setControl(0, 0x144, 2);
        bench.house.run(1);
        edges.are("INTERRUPTED", "3 -1", bench.house.thread(thread, 0), bench.house.thread(thread, 2));
        bench.house.setControl(0, 0x144, 0);
        bench.call(6, thread, 0);
        bench.house.run(2);
        edges.are("DEAD", "5 -1", bench.house.thread(thread, 0), bench.house.thread(thread, 2));
    }

    private void entered() {
        edges.terms(5, 9, "all its registers are 0, but x2, the base and its stack, x10 and x11, which are given; "
            + "its PC is the base and its entry.");
        int[][] given = {{0, 0, 0, 0}, {252, 256, MIN, MAX}, {4, 16, -1, 1}};
        for (int[] one : given) {
            Bench bench = new Bench(1);
            bench.call(1, 0x8100, 256);
            bench.call(3, 0, one[0], one[1]);
            bench.call(4, 0, 0);
            bench.call(5, 0, one[2], one[3]);
            for (int n = 0; n < 32; n++) {
                int due = n == 2 ? 0x8100 + one[1] : n == 10 ? one[2] : n == 11 ? one[3] : 0;
                edges.is("x" + n, due, bench.house.inside(0, n));
            }
            edges.is("PC", 0x8100 + one[0], bench.house.inside(0, 32));
        }
        Bench bench = new Bench(1);
        Code code = new Code();
        for (int n = 1; n < 32; n++) {
            code.word(Code.byNumber(19, n, 0, 0, 5));
        }
        int thread = bench.enclave(0x8000, 512, 0, code.exit(0));
        bench.enter(thread, 0, 0);
        bench.call(5, thread, 0, 0);
        for (int n = 1; n < 33; n++) {
            edges.is("ENTERED again, x" + n, n == 2 ? 0x8200 : n == 32 ? 0x8000 : 0, bench.house.inside(thread, n));
        }
    }

    private void enteredWakes() {
        edges.terms(5, 14, "ENTERED it RUNS (the hart WAITS no more): ");
        for (int f = 5; f < 7; f++) {
            Bench bench = new Bench(1);
            int thread = bench.enclave(0x8000, 256, 0, new Code().call(33, 0, 0).word(ENDLESS));
            if (f == 6) {
                bench.enter(thread, 0, 0);
            }
            bench.system(0x200, new Code().word(Code.WAIT));
            bench.house.run(1);
            edges.is("it WAITS", 1, bench.house.count(10));
            edges.is("CALL " + f + ": the THREAD", thread, bench.call(f, thread));
            edges.are("CALL " + f + ": it WAITS no more, and RUNS", "0 2 0", bench.house.count(10),
                bench.house.thread(thread, 0), bench.house.count(8));
        }
    }

    private void staysAlone() {
        edges.terms(5, 14, "When it ceases to run, its registers (x10 as it was, also behind EXIT and YIELD) and PC "
            + "(behind the CALL) stay with it alone; the system goes on in its MODE, at its PC, with its registers "
            + "as they were, but x10 and x11: ");
        for (int f = 32; f < 34; f++) {
            for (int mode = 0; mode < 2; mode++) {
                Bench bench = new Bench(1);
                Code code = new Code().set(8, 81).set(13, 82).set(31, 83).set(10, -5).set(11, 84).set(17, f)
                    .word(Code.CALL);
                int thread = bench.enclave(0x8000, 256, 0, code);
                for (int n = 1; n < 32; n++) {
                    bench.house.setRegister(0, n, 1000 + n);
                }
                bench.house.place(0, 0x600, mode);
                bench.enter(thread, 0, 0);
                edges.are("its registers", "81 82 83 -5 84 " + f, bench.house.inside(thread, 8),
                    bench.house.inside(thread, 13), bench.house.inside(thread, 31), bench.house.inside(thread, 10),
                    bench.house.inside(thread, 11), bench.house.inside(thread, 17));
                edges.is("its PC", 0x8000 + code.size(), bench.house.inside(thread, 32));
                for (int n = 1; n < 32; n++) {
                    int due = n == 10 ? f - 32 : n == 11 ? -5 : n == 12 ? thread : 1000 + n;
                    edges.is("the system's x" + n, due, bench.house.register(0, n));
                    edges.is("the other hart's x" + n, 0, bench.house.register(1, n));
                }
                edges.are("its MODE and PC", mode + " 1536", bench.house.count(12), bench.house.count(14));
            }
        }
    }

    private void exits() {
        edges.terms(5, 14, "EXIT: 0 and the value, IDLE.");
        for (int value : new int[] {0, -1, MIN, MAX}) {
            Bench bench = new Bench(1);
            int thread = bench.enclave(0x8000, 256, 0, new Code().exit(value));
            bench.enter(thread, 0, 0);
            edges.is("EXIT " + value, "0 " + value + " 0, 1", told(bench.house, 0) + ", "
                + bench.house.thread(thread, 0));
            edges.is("ENTERED again", thread, bench.call(5, thread));
        }
    }

    private void yields() {
        edges.terms(5, 14, "YIELD: 1 and the value, YIELDED.");
        for (int value : new int[] {0, -1, MIN, MAX}) {
            Bench bench = new Bench(1);
            int thread = bench.enclave(0x8000, 256, 0, new Code().call(33, value, 0).exit(0));
            bench.house.call(1, 5, thread, 0, 0, 0);
            bench.house.run(7);
            edges.is("YIELD " + value, "1 " + value + " 0, 4", told(bench.house, 1) + ", "
                + bench.house.thread(thread, 0));
            edges.is("it is not IDLE", -2, bench.call(5, thread));
        }
    }

    private void interrupted() {
        edges.terms(5, 14, "INTERRUPTED: 2 and 0 (4 and 0 by the SLICE).");
        for (int slice = 0; slice < 2; slice++) {
            Bench bench = new Bench(1);
            bench.enclave(0x9000, 256, 0, new Code().word(ENDLESS));
            int thread = bench.enclave(0x8000, 256, 0, new Code().set(10, 9).word(ENDLESS));
            bench.call(19, 4 * slice);
            bench.call(5, thread, 7, 8);
            bench.house.run(4);
            bench.house.setRegister(0, 11, 77);
            bench.house.setControl(0, 0x104, 2);
            bench.house.setControl(0, 0x144, slice == 0 ? 2 : 0);
            bench.house.run(1);
            edges.is("told", (slice == 0 ? "2 0 1" : "4 0 1") + ", 3", told(bench.house, 0) + ", "
                + bench.house.thread(thread, 0));
            edges.are("what stays with it", "9 8 32776", bench.house.inside(thread, 10),
                bench.house.inside(thread, 11), bench.house.inside(thread, 32));
            edges.is("no EVENT", 0, bench.house.count(5));
        }
    }

    private void faults() {
        edges.terms(5, 14, "A FAULT: 3 and the exception's number, DEAD. x12 is the THREAD then.");
        int[][] given = {{Code.jumping(7, 2), 0}, {Code.byNumber(103, 7, 0, 0, 0), -1}, {0, 2}, {Code.BREAK, 3},
            {Code.byNumber(3, 7, 2, 0, 1), 4},
            {Code.byNumber(3, 7, 2, 0, 0), 5}, {Code.storing(2, 0, 0, 1), 6}, {Code.storing(2, 0, 0, 0), 7}};
        for (int[] one : given) {
            Bench bench = new Bench(1);
            bench.enclave(0x9000, 256, 0, new Code().exit(0));
            int thread = bench.enclave(0x8000, 256, 0, new Code().word(one[0]));
            bench.enter(thread, 0, 0);
            int due = one[1] < 0 ? 1 : one[1];
            edges.is("told", "3 " + due + " 1, 5", told(bench.house, 0) + ", " + bench.house.thread(thread, 0));
            edges.is("its PC", one[1] < 0 ? 0 : 0x8000, bench.house.inside(thread, 32));
            edges.are("neither ENTERED nor RESUMED", "-2 -2", bench.call(5, thread), bench.call(6, thread));
            edges.are("no TRAP", "0 0", bench.house.control(0, 0x142), bench.house.count(14));
        }
    }

    private void resumed() {
        edges.terms(5, 14, "RESUMED it RUNS again as it was (the hart WAITS no more); if it YIELDED, x10 is what is "
            + "given.");
        for (int given : new int[] {0, -1, MIN, MAX}) {
            Bench bench = new Bench(1);
            int thread = bench.enclave(0x8000, 256, 0, new Code().set(8, 4).call(33, 5, 6)
                .word(Code.byNumber(19, 8, 0, 8, 1)).word(ENDLESS));
            bench.enter(thread, 0, 0);
            bench.house.call(1, 6, thread, given, 3, 3);
            edges.are("it YIELDED", given + " 6 4 32804", bench.house.inside(thread, 10),
                bench.house.inside(thread, 11), bench.house.inside(thread, 8), bench.house.inside(thread, 32));
            bench.house.run(2);
            edges.are("it went on", "5 32808", bench.house.inside(thread, 8), bench.house.inside(thread, 32));
            bench.house.setControl(1, 0x104, 2);
            bench.house.setControl(1, 0x144, 2);
            bench.house.run(1);
            bench.call(6, thread, 1234);
            edges.are("it was INTERRUPTED", given + " 6 5 32808", bench.house.inside(thread, 10),
                bench.house.inside(thread, 11), bench.house.inside(thread, 8), bench.house.inside(thread, 32));
        }
    }

    /** HANDLE 0x8080, then a word that is an exception, at 0x802c, with x10 51 and x11 52. */
    private static Bench handling(int word, Code handler) {
        Bench bench = new Bench(1);
        Code code = new Code().call(43, 0x8080, 0).set(10, 51).set(11, 52).word(word);
        while (code.size() < 0x80) {
            code.word(Code.NOTHING);
        }
        for (int i = 0; i < 8; i++) {
            code.word(Code.NOTHING);
        }
        bench.call(1, 0x8000, 1024);
        code.poke(bench.house, 0x1000);
        handler.poke(bench.house, 0x1080);
        bench.call(2, 0, 0, 0x1000);
        bench.call(2, 0, 1, 0x1100);
        bench.call(3, 0, 0, 1024);
        bench.call(4, 0, 0);
        bench.call(5, 0, 0, 0);
        bench.house.run(12);
        return bench;
    }

    private static String inside(Bench bench, int... registers) {
        StringBuilder text = new StringBuilder();
        for (int n : registers) {
            text.append(text.length() == 0 ? "" : " ").append(bench.house.inside(0, n));
        }
        return text.toString();
    }

    private void handled() {
        edges.terms(5, 14, "its x10, x11, PC and HANDLER are HELD (instead of what was), x10 is the exception's "
            + "number, x11 that PC; it goes on at the HANDLER, and has none then.");
        int[][] given = {{Code.jumping(7, 2), 0}, {0, 2}, {Code.BREAK, 3}, {Code.byNumber(3, 7, 2, 0, 1), 4},
            {Code.byNumber(3, 7, 2, 0, 0), 5},
            {Code.storing(2, 0, 0, 1), 6}, {Code.storing(2, 0, 0, 0), 7}};
        for (int[] one : given) {
            Bench bench = handling(one[0], new Code().word(ENDLESS));
            edges.is("exception " + one[1], one[1] + " 32812 32896, 2",
                inside(bench, 10, 11, 32) + ", " + bench.house.thread(0, 0));
            edges.is("no EVENT", 0, bench.house.count(5));
        }
        Bench bench = handling(0, new Code().word(0));
        bench.house.run(1);
        edges.is("it has none then", "3 2 0", told(bench.house, 0));
        bench = handling(0, new Code().set(9, 8).call(44, 4, 0));
        bench.house.run(9);
        edges.is("as HELD, and on behind it", "51 52 32816 8", inside(bench, 10, 11, 32, 9));
        bench = handling(Code.byNumber(103, 7, 0, 0, 0), new Code().word(ENDLESS));
        bench.house.run(1);
        edges.is("a fetch: the PC is where it went", "1 0 32896", inside(bench, 10, 11, 32));
    }

    /** A second exception in the handler, which set a new one, at 0x8100. */
    private void handledTwice() {
        edges.terms(5, 14, "are HELD (instead of what was), ");
        Code handler = new Code().call(43, 0x8100, 0).set(10, 61).set(11, 62).word(Code.BREAK);
        while (handler.size() < 0x80) {
            handler.word(Code.NOTHING);
        }
        Bench bench = handling(0, handler.call(44, 4, 0));
        bench.house.run(12);
        edges.is("the second one", "3 32940 33024", inside(bench, 10, 11, 32));
        bench.house.run(7);
        edges.is("back from it", "61 62 32944", inside(bench, 10, 11, 32));
        bench.house.secret(0, 0xb0, 0);
        bench.house.secret(0, 0xb1, 0);
        bench.house.run(1);
        edges.is("the HANDLER is that of the second one", "2 32944 33024", inside(bench, 10, 11, 32));
    }

    private void enteredWithoutHandler() {
        edges.terms(5, 14, "HANDLED is an exception of a THREAD that has a HANDLER (none, and nothing HELD, when it "
            + "is ENTERED): ");
        Bench bench = new Bench(1);
        // With x10 0: HANDLE, an exception, EXIT by the handler; with x10 1: RETURN, then an exception.
        Code code = new Code().word(Code.branching(1, 10, 0, 64)).call(43, 0x8000 + 36, 0).word(0).exit(1);
        int thread = bench.enclave(0x8000, 256, 0, code.callTo(20, 44, 4, 0).word(0));
        edges.is("a HANDLER of 0 is none", 0, bench.house.inside(thread, 32));
        bench.enter(thread, 0, 0);
        edges.is("EXIT with something HELD", "0 1 0", told(bench.house, 0));
        bench.enter(thread, 1, 0);
        edges.is("ENTERED, nothing is HELD", -1, bench.house.inside(thread, 20));
        edges.is("nor has it a HANDLER", "3 2 0", told(bench.house, 0));
        bench = new Bench(1);
        code = new Code().word(Code.branching(1, 10, 0, 64)).call(43, 0x8080, 0).exit(1);
        while (code.size() < 64) {
            code.word(Code.NOTHING);
        }
        thread = bench.enclave(0x8000, 256, 0, code.word(0));
        bench.enter(thread, 0, 0);
        bench.enter(thread, 1, 0);
        edges.is("EXIT with a HANDLER, and ENTERED again", "3 2 0, 32832",
            told(bench.house, 0) + ", " + bench.house.inside(thread, 32));
    }

    private void eventsOfEnds() {
        edges.terms(5, 22, "EVENTS of enclaves, in order: a sort, TIME, the hart, THREAD, and three numbers p, q, r: "
            + "1 EXIT (value, 0, 0), 2 YIELD (value, 0, 0), 3 a FAULT (the exception, 0, 0), ");
        Bench bench = new Bench(1);
        bench.enclave(0x9000, 256, 0, new Code().exit(0));
        int thread = bench.enclave(0x8000, 256, 0, new Code().call(33, MIN, 9).exit(MAX));
        edges.is("none", "0 0 0 0 0 0 0 0", bench.event(0));
        bench.call(5, thread, 0, 0);
        bench.house.run(7);
        bench.house.run(2);
        bench.house.call(1, 6, thread, 0, 0, 0);
        bench.house.run(7);
        bench.house.secret(1, 0, 0);
        bench.call(5, thread, 0, 0);
        bench.house.run(1);
        String[] due = {"2 6 0 1 1 " + MIN + " 0 0", "1 15 1 1 1 " + MAX + " 0 0", "3 16 0 1 1 2 0 0",
            "0 0 0 0 0 0 0 0"};
        for (int i = 0; i < due.length; i++) {
            edges.is("EVENT " + i, due[i], bench.event(i));
        }
        edges.is("in all", 3, bench.house.count(5));
    }

    private void eventsOfStores() {
        edges.terms(5, 22, "4 something is stored in a SHARED REGION or LINK (place, what, not below 0 but of words, "
            + "how many bytes: 1, 2, 4; ");
        Bench bench = new Bench(1);
        bench.call(1, 0x7000, 256);
        Code code = new Code().set(17, 38).set(10, 2).word(Code.CALL).set(10, 3).word(Code.CALL).set(10, 4)
            .word(Code.CALL)
            .set(5, SHARED).set(6, -2).set(7, 0xc000).set(8, LINKED)
            .store(0, 5, 6, 3).store(1, 5, 6, 4).store(2, 5, 6, 252).store(2, 8, 6, 0).word(Code.inMemory(0, 9, 5, 6))
            .word(Code.inMemory(3, 9, 5, 6)).word(Code.inMemory(2, 9, 5, 0)).word(Code.inMemory(3, 9, 5, 0))
            .store(2, 7, 6, 0).store(2, 2, 6, -4).load(2, 9, 5, 0).exit(0);
        int thread = bench.enclave(0x8000, 256, 0, code);
        bench.call(9, 1, SHARED, 256);
        bench.call(10, 0, 1, LINKED, 256);
        bench.call(20, 1, 0xc000, 256);
        bench.enter(thread, 0, 0);
        // The word at the SHARED REGION's beginning has its byte 3 stored first.
        int sum = 0xfe000000 - 2;
        String[] due = {"5: 2 0 0", "5: 3 0 0", "5: 4 0 0", "4: 40963 254 1", "4: 40964 65534 2", "4: 41212 -2 4",
            "4: 45056 -2 4",
            "4: 40960 " + sum + " 4", "4: 40960 0 4", "1: 0 0 0"};
        for (int i = 0; i < due.length; i++) {
            edges.is("EVENT " + i, due[i], bench.brief(i));
        }
        edges.is("none of EXTRA, nor of its own, nor where nothing is stored", due.length, bench.house.count(5));
    }

    /** REGION 0 is SHARED here, and begins at place 0. */
    private void eventsAtZero() {
        edges.terms(5, 22, "4 something is stored in a SHARED REGION or LINK (place, what, not below 0 but of words, ");
        Bench bench = new Bench(1);
        bench.call(1, 0x7000, 256);
        Code code = new Code().set(17, 38).word(Code.CALL).set(6, -1).store(0, 0, 6, 0).store(1, 0, 6, 0)
            .store(2, 0, 6, 0).exit(0);
        int thread = bench.enclave(0x8000, 256, 0, code);
        bench.call(8, 0);
        edges.is("SHARE", 0, bench.call(9, 1, 0, 256));
        bench.enter(thread, 0, 0);
        String[] due = {"5: 0 0 0", "4: 0 255 1", "4: 0 65535 2", "4: 0 -1 4", "1: 0 0 0"};
        for (int i = 0; i < due.length; i++) {
            edges.is("EVENT " + i, due[i], bench.brief(i));
        }
    }

    private void eventsOfMonitorStores() {
        edges.terms(5, 22, "also by the monitor at a THREAD'S CALL: byte by byte), ");
        Bench bench = new Bench(1);
        Agent agent = new Agent(bench, 0x8000);
        bench.call(9, 0, 0x8400, 256);
        agent.ask(38, 2);
        int before = bench.house.count(5);
        // The last byte is the only one in the SHARED REGION.
        agent.ask(39, 0x83e1);
        byte[] due = agent.measurement(0);
        edges.is("SELF, one byte", "4: 33792 " + (due[31] & 255) + " 1", bench.brief(before));
        edges.is("then the YIELD", 2, bench.house.event(before + 1, 0));
        agent.ask(36, 0x8400, 2);
        edges.is("RANDOM, two bytes", "4: 33792 1, 4: 33793 1", place(bench, before + 2) + ", "
            + place(bench, before + 3));
        edges.is("then the YIELD", 2, bench.house.event(before + 4, 0));
        before = bench.house.count(5);
        agent.ask(34, 0x8300, 0x8400);
        for (int i = 0; i < 128; i++) {
            int word = bench.house.inner(0x8400 + i & ~3);
            if (i % 32 == 0) {
                edges.is("ATTEST, byte " + i, "4: " + (0x8400 + i) + " " + (word >>> 8 * (i & 3) & 255) + " 1",
                    bench.brief(before + i));
            }
        }
        edges.is("ATTEST, bytes in all", before + 129, bench.house.count(5));
    }

    private static String place(Bench bench, int i) {
        return bench.house.event(i, 0) + ": " + bench.house.event(i, 5) + " " + bench.house.event(i, 7);
    }

    /** The system, poke() and devices have no THREAD, so that what they store is no EVENT of enclaves. */
    private void noEventsOfOthers() {
        edges.terms(5, 22, "EVENTS of enclaves, in order: ");
        Steps steps = new Steps(Code.storing(2, 5, 6, 0)).set(5, SHARED).set(6, 7);
        steps.house.call(0, 1, 0x8000, 256, 0, 0);
        steps.house.call(0, 9, 0, SHARED, 256, 0);
        steps.run(1);
        steps.house.poke(SHARED, 1, 2, 3, 4, 5);
        steps.house.call(0, 14, 0, 0, SHARED, 0);
        steps.run(5);
        steps.house.call(0, 11, 1, 0, 0, 0);
        edges.are("none", "0 0", steps.house.count(5), steps.house.event(0, 0));
    }

    private void otherEvents() {
        edges.terms(5, 22, "5 ACCEPT (the REGION, 0, 0), 6 SEND, eight times (to, k, word k of it), 7 RECEIVE (1 or "
            + "0, 0, 0; ahead of what it stores), 8 COUNT (what it became, 0, 0), 9 the PATH is claimed (1, 0, 0) or "
            + "released (0, 0, 0).");
        Bench bench = new Bench(1);
        Agent first = new Agent(bench, 0x8000);
        Agent second = new Agent(bench, 0x9000);
        edges.is("ACCEPT", "5: 1 0 0, 2", bench.brief(0) + ", " + bench.house.event(1, 0));
        first.keep(0x300, 0x04030201, MIN, -1, 0, 5, 6, 7, MAX);
        int at = bench.house.count(5);
        first.ask(40, second.enclave, 0x8300);
        int[] words = {0x04030201, MIN, -1, 0, 5, 6, 7, MAX};
        for (int k = 0; k < 8; k++) {
            edges.is("SEND " + k, "6: 1 " + k + " " + words[k], bench.brief(at + k));
        }
        edges.are("then the YIELD", "2 " + (at + 9), bench.house.event(at + 8, 0), bench.house.count(5));
        bench.call(9, 1, SHARED, 256);
        second.ask(38, 4);
        at = bench.house.count(5);
        second.ask(41, SHARED);
        edges.is("RECEIVE, ahead of its bytes", "7: 1 0 0, 4: 40960 1 1, 4: 40961 2 1",
            bench.brief(at) + ", " + bench.brief(at + 1) + ", "
            + bench.brief(at + 2));
        edges.is("its bytes", 4, bench.house.event(at + 64, 0));
        second.ask(41, SHARED);
        edges.is("RECEIVE of none", "7: 0 0 0, 2", bench.brief(at + 66) + ", " + bench.house.event(at + 67, 0));
        at = bench.house.count(5);
        second.ask(42);
        second.ask(42);
        second.ask(45);
        second.ask(46);
        edges.is("COUNT", "8: 1 0 0, 8: 2 0 0", bench.brief(at) + ", " + bench.brief(at + 2));
        edges.is("the PATH", "9: 1 0 0, 9: 0 0 0", bench.brief(at + 4) + ", " + bench.brief(at + 6));
        edges.are("whose they are", "0 1 1", bench.house.event(at, 2), bench.house.event(at, 3),
            bench.house.event(at, 4));
        at = bench.house.count(5);
        second.ask(46);
        second.ask(38, 4);
        second.ask(40, 7, 0x9300);
        second.ask(41, 0x9400);
        edges.is("what is refused is none", at + 4, bench.house.count(5));
    }

    private void firstThousand() {
        edges.terms(5, 22, "The first 1,000 are kept.");
        Bench bench = new Bench(1);
        Code code = new Code().set(17, 38).set(10, 1).word(Code.CALL).set(5, SHARED).word(Code.byNumber(19, 6, 0, 6, 1))
            .store(2, 5, 6, 0).word(Code.jumping(0, -8));
        int thread = bench.enclave(0x8000, 256, 0, code);
        bench.call(9, 0, SHARED, 256);
        bench.call(5, thread, 0, 0);
        bench.house.run(7);
        bench.house.run(2000);
        bench.house.run(3 * 331);
        edges.is("nearly so many", 999, bench.house.count(5));
        bench.house.run(3);
        edges.are("the last one that is kept", "1000 4 999", bench.house.count(5), bench.house.event(999, 0),
            bench.house.event(999, 6));
        bench.house.run(3);
        edges.are("one more", "1001 0 0", bench.house.count(5), bench.house.event(1000, 0), bench.house.event(1000, 6));
        edges.are("the last one that is kept stays", "4 999", bench.house.event(999, 0), bench.house.event(999, 6));
        edges.is("the first one stays", 5, bench.house.event(0, 0));
        edges.is("others", 0, bench.house.event(1001, 0) | bench.house.event(-1, 0) | bench.house.event(MIN,
            0) | bench.house.event(MAX, 0));
    }
}
