/** Promises 9, 14, 19, 21 and 22: THREADS that run, cease, are handled and store, and their EVENTS. */
public final class EnclaveTest {
    private static final Check check = new Check("EnclaveTest");

    public static void main(String[] args) {
        check.look(args);
        exampleOfReadme();
        exits();
        yields();
        faults();
        staysInside();
        interrupts();
        slices();
        handlers();
        refusedReturns();
        enteredAgain();
        returnsOnce();
        regionZero();
        reservationsOfOneWord();
        acceptance();
        entriesOfThreads();
        storesAreTold();
        eventsKept();
        atPlaceZero();
        reservations();
        illegalInside();
        check.end();
    }

    private static String told(EnclaveHouse house, int hart) {
        return house.register(hart, 10) + " " + house.register(hart, 11) + " " + house.register(hart, 12);
    }

    private static void exampleOfReadme() {
        check.terms(5, 14, "EXIT: 0 and the value, IDLE.");
        EnclaveHouse house = new EnclaveHouse(5);
        house.poke(0x1000, 0x00b50533, 0x02000893, 0x73, 0, 0);
        int enclave = house.call(0, 1, 0x8000, 1024, 0, 0);
        check.is("LOAD", 0, house.call(0, 2, enclave, 0, 0x1000, 0));
        int thread = house.call(0, 3, enclave, 0, 1024, 0);
        check.is("FINALISE", 0, house.call(0, 4, enclave, 0, 0, 0));
        check.is("ENTER", thread, house.call(0, 5, thread, 7, 8, 0));
        check.is("rounds", 3, house.run(3));
        check.are("x10, x11", "0 15", house.register(0, 10), house.register(0, 11));
        check.are("who sees it", "0 " + 0x00b50533, house.word(0x8000), house.inner(0x8000));
        check.is("the event", 1, house.event(0, 0));
    }

    private static void exits() {
        check.terms(5, 14, "the system goes on in its MODE, at its PC, with its registers as they were, but x10 and "
            + "x11: EXIT: 0 and the value, IDLE.");
        check.terms(5, 14, "its registers (x10 as it was, also behind EXIT and YIELD) and PC (behind the CALL) stay "
            + "with it alone;");
        Bench bench = new Bench(1);
        bench.enclave(0x8000, 256, 0, new Code().exit(1));
        int thread = bench.enclave(0x9000, 256, 0, new Code().set(8, 4).exit(-7));
        for (int n = 1; n < 32; n++) {
            bench.house.setRegister(0, n, 1000 + n);
        }
        bench.house.place(0, 0x400, 0);
        bench.enter(thread, 5, 6);
        check.is("EXIT tells", "0 -7 1", told(bench.house, 0));
        for (int n = 1; n < 32; n++) {
            if (n < 10 || n > 12) {
                check.is("the system's x" + n, 1000 + n, bench.house.register(0, n));
            }
        }
        check.is("its PC and MODE", "1024 0", bench.house.count(14) + " " + bench.house.count(12));
        check.is("IDLE", 1, bench.house.thread(thread, 0));
        check.is("on no hart", -1, bench.house.thread(thread, 2));
        check.is("x10 as it was", -7, bench.house.inside(thread, 10));
        check.is("its PC", 0x9000 + 36, bench.house.inside(thread, 32));
        check.is("what it had", 4, bench.house.inside(thread, 8));
        check.is("the event", "1 8 0 1 1 -7 0 0", bench.event(0));
        check.is("in all", 1, bench.house.count(5));
        bench.call(5, thread, 0, 0);
        check.is("entered again, all is 0", 0, bench.house.inside(thread, 8));
    }

    private static void yields() {
        check.terms(5, 14, "YIELD: 1 and the value, YIELDED.");
        check.terms(5, 14, "if it YIELDED, x10 is what is given.");
        Bench bench = new Bench(1);
        Code code = new Code().callTo(9, 33, 55, 0).word(Code.byNumber(19, 10, 0, 9, 0)).set(17, 32).word(Code.CALL);
        int thread = bench.enclave(0x8000, 256, 0, code);
        bench.enter(thread, 0, 0);
        check.is("YIELD tells", "1 55 0", told(bench.house, 0));
        check.is("YIELDED", 4, bench.house.thread(thread, 0));
        check.is("x10 as it was", 55, bench.house.inside(thread, 10));
        check.is("its PC", 0x8000 + 28, bench.house.inside(thread, 32));
        check.is("the event", "2 6 0 0 0 55 0 0", bench.event(0));
        bench.call(6, thread, 123);
        bench.runThread();
        check.is("it got what was given", "0 123 0", told(bench.house, 0));
        check.is("the event", "1: 123 0 0", bench.brief(1));
    }

    private static void faults() {
        check.terms(5, 14, "A FAULT: 3 and the exception's number, DEAD. x12 is the THREAD then.");
        int[][] due = {
            {2, 0}, {3, Code.BREAK}, {4, Code.byNumber(3, 7, 2, 2, 1)}, {6, Code.storing(1, 2, 0, 1)},
            {5, Code.byNumber(3, 7, 2, 0, 0)}, {7, Code.storing(2, 0, 0, 0)}, {0, Code.jumping(7, 2)}
        };
        for (int[] one : due) {
            Bench bench = new Bench(1);
            int thread = bench.enclave(0x8000, 256, 0, new Code().word(Code.NOTHING).word(one[1]));
            bench.enter(thread, 8, 9);
            check.is("the fault tells", "3 " + one[0] + " 0", told(bench.house, 0));
            check.is("DEAD", 5, bench.house.thread(thread, 0));
            check.is("its PC stays there", 0x8004, bench.house.inside(thread, 32));
            check.is("x7 stays", 0, bench.house.inside(thread, 7));
            check.is("the event", "3 1 0 0 0 " + one[0] + " 0 0", bench.event(0));
            check.is("not to be entered", -2, bench.call(5, thread, 0, 0));
            check.is("nor resumed", -2, bench.call(6, thread, 0));
            check.is("the system's registers of traps", 0, bench.house.control(0, 0x142));
        }
    }

    private static int faultAt(Code code) {
        Bench bench = new Bench(1);
        bench.call(1, 0x9000, 256);
        int thread = bench.enclave(0x8000, 256, 0, code.exit(0));
        bench.enter(thread, 0, 0);
        return bench.house.register(0, 10) == 3 ? bench.house.register(0, 11) : -1;
    }

    private static void staysInside() {
        check.terms(4, 14, "without such an ENTRY, or a byte of MEMORY, they are not.");
        check.terms(3, 14, "With a THREAD the address is the PLACE; alike exceptions 4, 6, then 1, 5, 7.");
        check.is("its own last word", -1, faultAt(new Code().set(5, 0x80fc).load(2, 6, 5, 0)));
        check.is("behind it", 5, faultAt(new Code().set(5, 0x80fc).load(2, 6, 5, 4)));
        check.is("ahead of it", 7, faultAt(new Code().set(5, 0x8000).store(0, 5, 0, -1)));
        check.is("another enclave", 5, faultAt(new Code().set(5, 0x9000).load(4, 6, 5, 0)));
        check.is("far off", 7, faultAt(new Code().set(5, -4).store(2, 5, 0, 0)));
        check.is("going on outside", 1, faultAt(new Code().set(5, 0x100).word(Code.byNumber(103, 0, 0, 5, 0))));
        check.is("a word of memory", 7, faultAt(new Code().set(5, 0x100).word(Code.inMemory(0, 6, 5, 0))));
        check.is("reserving outside", 5, faultAt(new Code().set(5, 0x100).word(Code.inMemory(2, 6, 5, 0))));
        Bench bench = new Bench(1);
        int thread = bench.enclave(0x8000, 256, 0, new Code().set(5, 0x8080).load(2, 6, 5, 0).exit(0));
        bench.house.setControl(0, 0x180, -1);
        bench.house.secret(0, 0x80, 77);
        bench.enter(thread, 0, 0);
        check.is("the system's tables do not count", 77, bench.house.inside(thread, 6));
    }

    private static void interrupts() {
        check.terms(1, 14, "2. If an interrupt is DUE: with a THREAD: it is INTERRUPTED (5);");
        check.terms(5, 14, "INTERRUPTED: 2 and 0 (4 and 0 by the SLICE).");
        Bench bench = new Bench(1);
        Code code = new Code().word(Code.byNumber(19, 8, 0, 8, 1)).word(Code.jumping(0, -4));
        int thread = bench.enclave(0x8000, 256, 0, code);
        bench.house.setControl(0, 0x104, 32);
        bench.house.setControl(0, 0x14d, 3);
        bench.call(5, thread, 0, 0);
        bench.house.run(3);
        check.is("it runs still", 0, bench.house.count(8));
        bench.house.run(1);
        check.is("INTERRUPTED tells", "2 0 0", told(bench.house, 0));
        check.is("its state", 3, bench.house.thread(thread, 0));
        check.is("its PC", 0x8004, bench.house.inside(thread, 32));
        check.is("its x8", 2, bench.house.inside(thread, 8));
        check.is("no event", 0, bench.house.count(5));
        check.is("no trap", 0, bench.house.control(0, 0x142));
        bench.house.setControl(0, 0x14d, -1);
        bench.house.setControl(0, 0x104, 0);
        check.is("RESUME", thread, bench.call(6, thread, 99));
        check.is("x10 is as it was", 0, bench.house.inside(thread, 10));
        bench.house.run(2);
        check.is("it went on", 3, bench.house.inside(thread, 8));
        bench.house.line(true);
        bench.house.run(1);
        check.is("not enabled", 0, bench.house.count(8));
        bench.house.setControl(0, 0x104, 512);
        bench.house.run(1);
        check.is("enabled", -1, bench.house.count(8));
    }

    private static void slices() {
        check.terms(1, 14, "With a THREAD, if none is: it is INTERRUPTED, and that is all, also if the SLICE that "
            + "the hart had when it began to run is above 0, and it did 3. so many times since.");
        Bench bench = new Bench(1);
        Code code = new Code().word(Code.byNumber(19, 8, 0, 8, 1)).word(Code.jumping(0, -4));
        int thread = bench.enclave(0x8000, 256, 0, code);
        bench.call(19, 3);
        bench.call(5, thread, 0, 0);
        bench.house.run(3);
        check.is("three steps", 0, bench.house.count(8));
        bench.house.run(1);
        check.is("then the slice", "4 0 0", told(bench.house, 0));
        check.is("INTERRUPTED", 3, bench.house.thread(thread, 0));
        check.is("what it did", 2, bench.house.inside(thread, 8));
        check.is("its PC", 0x8004, bench.house.inside(thread, 32));
        bench.call(6, thread, 0);
        bench.house.call(1, 19, 1, 0, 0, 0);
        bench.house.run(3);
        check.is("three more", 0, bench.house.count(8));
        bench.house.line(true);
        bench.house.setControl(0, 0x104, 512);
        bench.house.run(1);
        check.is("an interrupt comes ahead of it", "2 0 0", told(bench.house, 0));
        bench.house.line(false);
        bench.house.call(1, 6, thread, 0, 0, 0);
        bench.house.run(1);
        check.is("one step on hart 1", thread, bench.house.count(9));
        bench.house.run(1);
        check.is("the other hart's slice", "4 0 0", told(bench.house, 1));
        bench.house.call(1, 19, 0, 0, 0, 0);
        bench.house.call(1, 6, thread, 0, 0, 0);
        bench.house.run(500);
        check.is("no slice", thread, bench.house.count(9));
    }

    private static void handlers() {
        check.terms(5, 14, "HANDLED is an exception of a THREAD that has a HANDLER (none, and nothing HELD, when it "
            + "is ENTERED): its x10, x11, PC and HANDLER are HELD (instead of what was), x10 is the exception's "
            + "number, x11 that PC; it goes on at the HANDLER, and has none then.");
        Bench bench = new Bench(1);
        Code code = new Code().call(43, 0x8080, 0).set(10, 51).set(11, 52).word(0).set(8, 1).word(0);
        while (code.size() < 0x80) {
            code.word(0);
        }
        code.word(Code.byNumber(19, 20, 0, 10, 0)).word(Code.byNumber(19, 21, 0, 11, 0))
            .set(10, 4).set(17, 44).word(Code.CALL);
        int thread = bench.enclave(0x8000, 256, 0, code);
        bench.call(5, thread, 0, 0);
        bench.house.run(12);
        check.is("handled", 0x8080, bench.house.inside(thread, 32));
        check.is("the exception", 2, bench.house.inside(thread, 10));
        check.is("where it was", 0x802c, bench.house.inside(thread, 11));
        bench.house.run(7);
        check.is("back behind it", 0x8030, bench.house.inside(thread, 32));
        check.is("x10 and x11 as held", "51 52", bench.house.inside(thread, 10) + " " + bench.house.inside(thread, 11));
        check.is("the handler saw", "2 32812", bench.house.inside(thread, 20) + " " + bench.house.inside(thread, 21));
        check.is("no event", 0, bench.house.count(5));
        bench.house.run(3);
        check.is("the handler is as held", 0x8080, bench.house.inside(thread, 32));
        check.is("handled again", 0x8038, bench.house.inside(thread, 11));
        bench.house.secret(0, 0x80, 0);
        bench.house.run(1);
        check.is("a fault in the handler", "3 2 0", told(bench.house, 0));
    }

    private static void refusedReturns() {
        check.terms(6, 14, "43 HANDLE: the HANDLER is p (BAD also: no multiple of 4; 0: none). 0.");
        check.terms(6, 14, "BAD also: nothing is HELD, or that is no multiple of 4.");
        Bench bench = new Bench(1);
        int thread = bench.enclave(0x8000, 256, 0, new Code().callTo(20, 44, 4, 0).callTo(21, 43, 0x8082, 0)
            .callTo(24, 43, 0x8081, 0).callTo(22, 43, 0x807c, 0).callTo(23, 43, 0, 0).word(0));
        bench.enter(thread, 0, 0);
        check.is("nothing is held", -1, bench.house.inside(thread, 20));
        check.is("a handler at no multiple of 4", -1, bench.house.inside(thread, 21));
        check.is("a handler at an odd place", -1, bench.house.inside(thread, 24));
        check.is("a handler", 0, bench.house.inside(thread, 22));
        check.is("none", 0, bench.house.inside(thread, 23));
        check.is("so it is a fault", "3 2 0", told(bench.house, 0));
        bench = new Bench(1);
        Code code = new Code().call(43, 0x8000 + 32, 0).word(0).callTo(20, 44, 2, 0).callTo(21, 44, 1, 0).exit(9);
        thread = bench.enclave(0x8000, 256, 0, code);
        bench.enter(thread, 0, 0);
        check.is("no multiple of 4", -1, bench.house.inside(thread, 20));
        check.is("an odd number", -1, bench.house.inside(thread, 21));
        check.is("it went on at once", "1 30 0 0 0 9 0 0", bench.event(0));
    }

    /** ENTERED again a THREAD has no HANDLER, and nothing is HELD. */
    private static void enteredAgain() {
        check.terms(5, 14, "(none, and nothing HELD, when it is ENTERED):");
        Bench bench = new Bench(1);
        // With x10 = 0: a handler, then an exception, and the handler EXITS; with x10 = 1: RETURN, then an exception.
        Code code = new Code().word(Code.branching(1, 10, 0, 64)).call(43, 0x8000 + 36, 0).word(0).exit(1);
        check.is("behind the first half", 64, code.size());
        code.callTo(20, 44, 4, 0).word(0);
        int thread = bench.enclave(0x8000, 256, 0, code);
        bench.enter(thread, 0, 0);
        check.is("EXIT of the handler", "0 1 0", told(bench.house, 0));
        bench.enter(thread, 1, 0);
        check.is("nothing is HELD", -1, bench.house.inside(thread, 20));
        check.is("there is no handler", "3 2 0", told(bench.house, 0));
        bench = new Bench(1);
        Code handler = new Code().word(Code.branching(1, 10, 0, 64)).call(43, 0x8080, 0).exit(1);
        while (handler.size() < 64) {
            handler.word(Code.NOTHING);
        }
        thread = bench.enclave(0x8000, 256, 0, handler.word(0));
        bench.enter(thread, 0, 0);
        check.is("EXIT with a handler", "0 1 0", told(bench.house, 0));
        bench.enter(thread, 1, 0);
        check.is("there is no handler", "3 2 0", told(bench.house, 0));
        check.is("it did not go there", 0x8040, bench.house.inside(thread, 32));
    }

    private static void returnsOnce() {
        check.terms(6, 14, "nothing is HELD then. (No answer.)");
        Bench bench = new Bench(1);
        Code code = new Code().call(43, 0x8080, 0).word(0).callTo(20, 44, 4, 0).exit(1);
        while (code.size() < 0x80) {
            code.word(Code.NOTHING);
        }
        int thread = bench.enclave(0x8000, 256, 0, code.call(44, 4, 0));
        bench.enter(thread, 0, 0);
        check.is("nothing is HELD behind a RETURN", -1, bench.house.inside(thread, 20));
        check.is("it went on", "0 1 0", told(bench.house, 0));
    }

    private static void regionZero() {
        check.terms(5, 22, "EVENTS of enclaves, in order: a sort, TIME, the hart, THREAD, and three numbers p, q, r:");
        check.terms(4, 21, "of it that it ACCEPTED, by numbers, with load and store");
        Bench bench = new Bench(1);
        bench.call(1, 0x9000, 256);
        Code code = new Code().callTo(20, 38, 0, 0).set(5, 0xa000).store(0, 5, 5, 0).word(Code.jumping(0, 0));
        int thread = bench.enclave(0x8000, 256, 0, code);
        bench.call(8, 0);
        check.is("REGION 0 is shared now", 0, bench.call(9, 1, 0xa000, 256));
        bench.house.call(1, 5, thread, 0, 0, 0);
        bench.house.run(20);
        check.is("ACCEPT", 0, bench.house.inside(thread, 20));
        check.is("on hart 1", "5 6 1 0 1 0 0 0", bench.event(0));
        check.is("its store", "4 10 1 0 1 40960 0 1", bench.event(1));
        check.is("its entries", "32768 40960 -1", bench.house.entry(1, 0, 0) + " " + bench.house.entry(1, 1, 0) + " "
            + bench.house.entry(1, 2, 0));
        bench = new Bench(1);
        thread = bench.enclave(0x8000, 256, 0, new Code().word(Code.jumping(0, 0)));
        bench.call(5, thread, 0, 0);
        check.is("an enclave in REGION 0", "32768 256 7 -1", bench.house.entry(0, 0, 0) + " "
            + bench.house.entry(0, 0, 1) + " " + bench.house.entry(0, 0, 2) + " " + bench.house.entry(0, 1, 0));
    }

    /** A RESERVATION goes with the THREAD'S beginning, and with its end. */
    private static void reservationsOfOneWord() {
        check.terms(2, 14, "and when a THREAD begins or ceases to run on the hart.");
        Bench bench = new Bench(1);
        Code code = new Code().call(38, 1, 0).set(5, 0xa000).set(10, 0).set(17, 33).word(Code.CALL)
            .word(Code.inMemory(3, 8, 5, 5)).word(Code.inMemory(2, 9, 5, 0)).word(Code.CALL);
        int thread = bench.enclave(0x8000, 256, 0, code);
        bench.call(9, 0, 0xa000, 256);
        bench.stillHart1();
        bench.enter(thread, 0, 0);
        check.is("YIELDED", 4, bench.house.thread(thread, 0));
        bench.system(0x100, new Code().set(5, 0xa000).word(Code.inMemory(2, 7, 5, 0)).word(Code.inMemory(3, 8, 5, 5)));
        bench.house.run(3);
        bench.call(6, thread, 0);
        bench.house.run(1);
        check.is("the system's is lost when it begins", 1, bench.house.inside(thread, 8));
        bench.house.run(2);
        check.is("it ceased", -1, bench.house.count(8));
        bench.house.run(1);
        check.is("its own is lost when it ceases", 1, bench.house.register(0, 8));
        check.is("nothing was stored", 0, bench.house.word(0xa000));
    }

    private static void acceptance() {
        check.terms(6, 14, "38 ACCEPT REGION p: BAD also: it is no SHARED REGION, LINK, EXTRA of this enclave. "
            + "STATE: it was ACCEPTED by it. 0.");
        check.promise(20, "5 who ACCEPTED it: 1 the first, 2 the other one, together.");
        Bench bench = new Bench(1);
        Code code = new Code();
        for (int i = 0; i < 6; i++) {
            code.callTo(20 + i, 38, i, 0);
        }
        code.callTo(26, 38, 1, 0).callTo(27, 38, 12, 0).callTo(28, 38, -1, 0).exit(0);
        int thread = bench.enclave(0x8000, 512, 0, code);
        bench.call(9, 0, 0xa000, 256);
        bench.call(20, 0, 0xb000, 256);
        bench.call(1, 0x9000, 256);
        bench.call(10, 1, 0, 0xc000, 256);
        bench.call(9, 1, 0xd000, 256);
        bench.enter(thread, 0, 0);
        int[] due = {-1, 0, 0, -1, 0, -1, -2, -1, -1};
        for (int i = 0; i < due.length; i++) {
            check.is("ACCEPT number " + i, due[i], bench.house.inside(thread, 20 + i));
        }
        check.is("who accepted", "0 1 1 0 2 0", accepted(bench));
        check.are("events", "5: 1 0 0 5: 2 0 0 5: 4 0 0", bench.brief(0), bench.brief(1), bench.brief(2));
    }

    private static String accepted(Bench bench) {
        StringBuilder text = new StringBuilder();
        for (int i = 0; i < 6; i++) {
            text.append(i == 0 ? "" : " ").append(bench.house.region(i, 5));
        }
        return text.toString();
    }

    private static void entriesOfThreads() {
        check.terms(4, 21, "With a THREAD: its enclave's PRIVATE REGION with all; then each SHARED REGION, LINK, "
            + "EXTRA of it that it ACCEPTED, by numbers, with load and store (EXTRA with all).");
        Bench bench = new Bench(1);
        bench.call(1, 0x9000, 256);
        int shared = bench.call(9, 0, 0xd000, 256);
        int thread = bench.enclave(0x8000, 512, 0, new Code().call(38, 4, 0).call(38, 3, 0)
            .set(5, 0xb000).word(Code.byNumber(103, 0, 0, 5, 0)));
        check.is("regions so far", 1, shared);
        bench.call(20, 1, 0xb000, 256);
        bench.call(9, 1, 0xa000, 256);
        bench.call(9, 1, 0xe000, 256);
        bench.call(5, thread, 0, 0);
        check.is("nothing accepted", "8000 200 7, -1", entries(bench));
        bench.house.run(7);
        check.is("SHARED", "8000 200 7, a000 100 3, -1", entries(bench));
        bench.house.run(7);
        check.is("EXTRA", "8000 200 7, b000 100 7, a000 100 3, -1", entries(bench));
        bench.house.run(4);
        check.is("EXTRA can be fetched from, and is 0", "3 2 0", told(bench.house, 0));
        check.is("the system's entries again", 0x9000, bench.house.entry(0, 0, 0));
    }

    private static String entries(Bench bench) {
        StringBuilder text = new StringBuilder();
        int i = 0;
        for (; bench.house.entry(0, i, 0) >= 0; i++) {
            text.append(Integer.toHexString(bench.house.entry(0, i, 0))).append(' ')
                .append(Integer.toHexString(bench.house.entry(0, i, 1))).append(' ')
                .append(bench.house.entry(0, i, 2)).append(", ");
        }
        return text.append(bench.house.entry(0, i, 2)).toString();
    }

    private static void storesAreTold() {
        check.terms(5, 22, "4 something is stored in a SHARED REGION or LINK (place, what, not below 0 but of "
            + "words, how many bytes: 1, 2, 4;");
        check.promise(22, "0: none such is kept.");
        Bench bench = new Bench(1);
        Code code = new Code().call(38, 1, 0).set(5, 0xa000).set(6, -2).store(0, 5, 6, 1).store(1, 5, 6, 2)
            .store(2, 5, 6, 4).word(Code.inMemory(0, 7, 5, 6)).word(Code.inMemory(2, 7, 5, 0))
            .word(Code.inMemory(3, 7, 5, 6)).word(Code.inMemory(3, 7, 5, 6)).set(5, 0x80c0).store(2, 5, 6, 0)
            .set(5, 0xa000).word(Code.byNumber(103, 0, 0, 5, 0));
        int thread = bench.enclave(0x8000, 256, 0, code);
        bench.call(9, 0, 0xa000, 256);
        bench.enter(thread, 0, 0);
        String[] due = {
            "5: 1 0 0", "4: 40961 254 1", "4: 40962 65534 2", "4: 40964 -2 4", "4: 40960 " + (0xfffefe00 - 2) + " 4",
            "4: 40960 -2 4", "3: 1 0 0"
        };
        for (int i = 0; i < due.length; i++) {
            check.is("event " + i, due[i], bench.brief(i));
        }
        check.is("in all", due.length, bench.house.count(5));
        check.is("the system sees it", -2, bench.house.word(0xa004));
        check.is("none such", "0 0 0 0 0 0 0 0", bench.event(due.length));
        check.is("none such", 0, bench.house.event(-1, 0) | bench.house.event(0, 8) | bench.house.event(0, -1));
    }

    private static void eventsKept() {
        check.terms(5, 22, "The first 1,000 are kept.");
        Bench bench = new Bench(1);
        Code code = new Code().call(38, 1, 0).set(5, 0xa000).store(2, 5, 6, 0).word(Code.byNumber(19, 6, 0, 6, 1))
            .word(Code.jumping(0, -8));
        int thread = bench.enclave(0x8000, 256, 0, code);
        bench.call(9, 0, 0xa000, 256);
        bench.call(5, thread, 0, 0);
        bench.house.run(2000);
        bench.house.run(1500);
        check.is("in all", 1165, bench.house.count(5));
        check.is("the last one kept", "4: 40960 998 4", bench.brief(999));
        check.is("not kept", 0, bench.house.event(1000, 0));
    }

    private static void atPlaceZero() {
        check.terms(5, 22, "4 something is stored in a SHARED REGION or LINK (place,");
        check.terms(4, 14, "With a THREAD: its enclave's PRIVATE REGION with all;");
        Bench bench = new Bench(1);
        int thread = bench.enclave(0, 256, 0, new Code().load(2, 7, 0, 0).store(2, 0, 0, 0).exit(3));
        int first = bench.house.inner(0);
        bench.enter(thread, 0, 0);
        check.is("its own first word", first, bench.house.inside(thread, 7));
        check.is("it stored there", 0, bench.house.inner(0));
        check.is("no event of that", "1: 3 0 0", bench.brief(0));
        bench = new Bench(1);
        thread = bench.enclave(0x8000, 256, 0, new Code().call(38, 1, 0).store(1, 0, 10, 0).exit(3));
        bench.call(9, 0, 0, 256);
        bench.enter(thread, 0, 0);
        check.is("a shared region at 0", "4: 0 0 2", bench.brief(1));
    }

    private static void reservations() {
        check.terms(2, 14, "A RESERVATION is lost, too, when a byte of its word is stored by anybody");
        check.terms(2, 14, "and when a THREAD begins or ceases to run on the hart.");
        check.promise(6, "as if it had been so (no RESERVATION is lost):");
        Bench bench = new Bench(1);
        int thread = bench.enclave(0x8000, 256, 0, new Code().exit(0));
        bench.stillHart1();
        bench.system(0x100, new Code().set(5, 0x2000).word(Code.inMemory(2, 7, 5, 0)).word(Code.inMemory(3, 8, 5, 0)));
        bench.house.run(3);
        bench.enter(thread, 0, 0);
        bench.house.run(1);
        check.is("lost when a THREAD ran", 1, bench.house.register(0, 8));
        bench = new Bench(1);
        Code code = new Code().call(38, 1, 0).set(5, 0xa000).word(Code.inMemory(2, 7, 5, 0))
            .word(Code.jumping(0, 4)).word(Code.inMemory(3, 8, 5, 0)).exit(0);
        thread = bench.enclave(0x8000, 256, 0, code);
        bench.call(9, 0, 0xa000, 256);
        bench.stillHart1();
        bench.call(5, thread, 0, 0);
        bench.house.run(10);
        bench.house.poke(0xa000, 0, 0, 0, 0, 0);
        bench.house.run(2);
        check.is("lost when the system stores", 1, bench.house.inside(thread, 8));
        bench = new Bench(1);
        Code own = new Code().set(5, 0x80c0).word(Code.inMemory(2, 7, 5, 0)).word(Code.inMemory(3, 8, 5, 0)).exit(0);
        thread = bench.enclave(0x8000, 256, 0, own);
        bench.call(5, thread, 0, 0);
        bench.house.run(3);
        bench.house.secret(0, 0xc0, 7);
        bench.house.setRegister(0, 8, 5);
        bench.house.run(1);
        check.is("not lost by secret()", 0, bench.house.inner(0x80c0));
    }

    private static void illegalInside() {
        check.terms(3, 14, "in U and with a THREAD all but 0xc01.");
        check.terms(2, 14, "(258, 261 and this are ILLEGAL elsewhere.)");
        check.terms(6, 14, "also another x17),");
        int[] words = {
            Code.LEAVE_TRAP, Code.WAIT, Code.byRegister(115, 0, 0, 0, 0, 9), Code.control(7, 2, 0, 0x100),
            Code.control(7, 2, 0, 0xf14), Code.control(7, 1, 0, 0xc01), Code.control(7, 2, 5, 0xc01)
        };
        for (int word : words) {
            check.is("illegal inside: " + Integer.toHexString(word), 2, faultAt(new Code().word(word)));
        }
        Bench bench = new Bench(1);
        int thread = bench.enclave(0x8000, 256, 0, new Code().word(Code.NOTHING).word(Code.control(7, 2, 0, 0xc01))
            .call(31, 0, 0).word(Code.byNumber(19, 8, 0, 10, 0)).call(51, 0, 0).exit(0));
        bench.enter(thread, 0, 0);
        check.is("TIME inside", 1, bench.house.inside(thread, 7));
        check.is("no such call", -1, bench.house.inside(thread, 8));
    }
}
