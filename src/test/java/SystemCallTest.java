/** Promises 13, 18, 19, 20 and 21: what the system asks for, refusals in their order, and who sees it. */
public final class SystemCallTest {
    private static final Check check = new Check("SystemCallTest");

    public static void main(String[] args) {
        check.look(args);
        whoMayCall();
        create();
        createIsFull();
        load();
        threads();
        finalise();
        enter();
        resume();
        stopAndDestroy();
        destroyTakesAll();
        share();
        links();
        drop();
        offer();
        machineCalls();
        disk();
        measureAndLook();
        regionsShown();
        entriesOfTheSystem();
        bySystemCode();
        fourNumbersBySystemCode();
        usedAgain();
        check.end();
    }

    private static Bench ready(int flags) {
        Bench bench = new Bench(1);
        bench.enclave(0x8000, 1024, flags, new Code().call(33, 5, 0).exit(6));
        return bench;
    }

    private static void whoMayCall() {
        check.promise(13, "A CALL of the system on a hart, from outside: x17 is f; p, q, r, s are not put into "
            + "registers; the PC stays: the answer (of 5 and 6, if they are not refused, the THREAD). BAD (-1) "
            + "also: no such hart, a THREAD runs there, or the machine is OFF.");
        Bench bench = ready(0);
        check.is("no hart", -1, bench.house.call(2, 15, 0, 0, 0, 0));
        check.is("no hart", -1, bench.house.call(-1, 15, 0, 0, 0, 0));
        for (int f : new int[] {0, 22, 31, 32, 50, -1, Integer.MIN_VALUE, Integer.MAX_VALUE}) {
            check.is("no call " + f, -1, bench.call(f));
        }
        bench.house.setRegister(0, 10, 77);
        check.is("the THREAD", 0, bench.call(5, 0, 1, 2));
        check.is("a THREAD runs there", -1, bench.call(15));
        check.is("but not on the other one", 0, bench.house.call(1, 15, 0, 0, 0, 0));
        check.is("x10 is as it was", 77, bench.house.register(0, 10));
        check.is("the PC stays", 0, bench.house.count(14));
    }

    private static void create() {
        check.terms(6, 13, "1 CREATE, SPAN p, q. OVERLAP: with a REGION. FULL: 6 enclaves, or 12 REGIONS. All bytes "
            + "of it are 0 then; the enclave's number (the least free, as with all numbers here); LOADING.");
        check.promise(18, "NONE: no such number or what; but for 0 and 5, if it is not there.");
        Bench bench = new Bench(1);
        int[][] bad = {
            {0, 128}, {0, 255}, {0, 65536}, {0, 0}, {0, -256}, {128, 256}, {256, 512}, {-256, 256}, {131072, 256},
            {0x8100, 0x8000}, {Integer.MIN_VALUE, 32768}, {0, Integer.MIN_VALUE}, {0, 768}
        };
        for (int[] one : bad) {
            check.is("CREATE " + one[0] + " " + one[1], -1, bench.call(1, one[0], one[1]));
        }
        Bench atZero = new Bench(1);
        atZero.house.poke(0, 1, 2, 3, 4, 5);
        check.is("at place 0", 0, atZero.call(1, 0, 256));
        check.is("its bytes are 0", 0, atZero.house.inner(0) | atZero.house.inner(16));
        bench.house.poke(0x8000, 1, 2, 3, 4, 5);
        bench.house.poke(0xfff0, 1, 2, 3, 4, 5);
        check.is("the largest one", 0, bench.call(1, 0x8000, 32768));
        check.is("its bytes are 0", 0, bench.house.inner(0x8000) | bench.house.inner(0xfffc));
        check.is("behind it they stay", 5, bench.house.inner(0x10000));
        check.is("within it", -4, bench.call(1, 0x8000, 256));
        check.is("its last bytes", -4, bench.call(1, 0xff00, 256));
        check.is("behind it", 1, bench.call(1, 0x10000, 256));
        check.is("around it", -4, bench.call(1, 0x10000, 32768));
        check.is("the last place", 2, bench.call(1, 0x1ff00, 256));
        int[] due = {1, 0x8000, 32768, -1, 0, 1, 0, 0};
        for (int what = 0; what < 8; what++) {
            check.is("enclave " + what, due[what], bench.house.enclave(0, what));
        }
        check.is("no what", -1, bench.house.enclave(0, 8));
        check.is("no what", -1, bench.house.enclave(0, -1));
        check.is("no enclave", -1, bench.house.enclave(6, 0));
        check.is("no enclave", -1, bench.house.enclave(-1, 5));
        check.is("none there", "0 -1 -1 -1 -1 0 -1 -1", shown(bench, 3));
        bench.call(8, 0);
        bench.call(1, 0, 256);
        check.is("the least free number, the second of it", "1 0 256 -1 0 2 0 0", shown(bench, 0));
    }

    private static String shown(Bench bench, int enclave) {
        StringBuilder text = new StringBuilder();
        for (int what = 0; what < 8; what++) {
            text.append(what == 0 ? "" : " ").append(bench.house.enclave(enclave, what));
        }
        return text.toString();
    }

    private static void createIsFull() {
        check.terms(6, 13, "FULL: 6 enclaves, or 12 REGIONS.");
        check.terms(6, 13, "Refusals are answers, the first that fits in the order told:");
        Bench bench = new Bench(1);
        for (int i = 0; i < 6; i++) {
            check.is("enclave", i, bench.call(1, 0x8000 + 256 * i, 256));
        }
        check.is("6 enclaves", -5, bench.call(1, 0, 256));
        check.is("OVERLAP comes first", -4, bench.call(1, 0x8000, 256));
        check.is("BAD comes first", -1, bench.call(1, 0x8000, 100));
        bench.call(8, 2);
        for (int i = 0; i < 7; i++) {
            check.is("region", i == 0 ? 2 : i + 5, bench.call(9, 0, 0x4000 + 256 * i, 256));
        }
        check.is("12 regions", 12, bench.house.count(3));
        check.is("no region for an enclave", -5, bench.call(1, 0, 256));
        check.is("no region to share", -5, bench.call(9, 0, 0, 256));
        check.is("OVERLAP comes first", -4, bench.call(9, 0, 0x4000, 256));
        check.is("no region to link", -5, bench.call(10, 0, 1, 0, 256));
        bench.call(4, 0, 0);
        check.is("no region to offer", -5, bench.call(20, 0, 0, 256));
    }

    private static void load() {
        check.terms(6, 13, "2 LOAD of page q (256 bytes each; below the size) of enclave p from r on (a multiple of "
            + "4): BAD also: not all those 256 bytes are OPEN. STATE: not LOADING. 0.");
        Bench bench = new Bench(1);
        bench.house.poke(0x1000, 1, 2, 3, 4, 5);
        bench.house.poke(0x10ec, 6, 7, 8, 9, 10);
        bench.call(1, 0x8000, 512);
        bench.call(1, 0x9000, 256);
        check.is("LOAD", 0, bench.call(2, 0, 1, 0x1000));
        check.is("its first word", 1, bench.house.inner(0x8100));
        check.is("its last word", 10, bench.house.inner(0x81fc));
        check.is("the page before it", 0, bench.house.inner(0x80fc));
        int[][] bad = {
            {2, 0, 0x1000}, {-1, 0, 0x1000}, {6, 0, 0x1000}, {0, 2, 0x1000}, {0, -1, 0x1000}, {0, 0x1000000, 0x1000},
            {0, 0, 0x1002}, {0, 0, 0x1001}, {0, 0, -4}, {0, 0, 131072 - 252}, {0, 0, 0x8000}, {0, 0, 0x7f04},
            {0, 0, 0x90fc}
        };
        for (int[] one : bad) {
            check.is("LOAD " + one[0] + " " + one[1] + " " + one[2], -1, bench.call(2, one));
        }
        check.is("ahead of an enclave", 0, bench.call(2, 0, 0, 0x7f00));
        check.is("the end of memory", 0, bench.call(2, 0, 0, 131072 - 256));
        bench.call(9, 0, 0xa000, 256);
        check.is("from a shared region", 0, bench.call(2, 0, 0, 0xa000));
        bench.call(4, 0, 0);
        check.is("not LOADING", -2, bench.call(2, 0, 0, 0x1000));
        check.is("BAD comes first", -1, bench.call(2, 0, 0, 0x8000));
    }

    private static void threads() {
        check.terms(6, 13, "3 THREAD of enclave p, entry q (a multiple of 4 below the size), stack r (a multiple of "
            + "16, at most the size, 0 and more). STATE: not LOADING. FULL: 3, or 12 in all. Its number; IDLE.");
        check.promise(19, "Of a THREAD: what = 0 its state (0: none), 1 its enclave, 2 the hart on which it runs "
            + "(NONE), 3 entry, 4 stack. NONE: no such number or what; but for 0, if it is not there.");
        Bench bench = new Bench(1);
        bench.call(1, 0x8000, 256);
        int[][] bad = {
            {1, 0, 0}, {-1, 0, 0}, {0, 2, 0}, {0, 256, 0}, {0, -4, 0}, {0, 1, 0}, {0, 0, 8}, {0, 0, 1}, {0, 0, 272},
            {0, 0, -16}
        };
        for (int[] one : bad) {
            check.is("THREAD " + one[0] + " " + one[1] + " " + one[2], -1, bench.call(3, one));
        }
        check.is("the highest entry and stack", 0, bench.call(3, 0, 252, 256));
        check.is("the second", 1, bench.call(3, 0, 0, 0));
        check.is("the third", 2, bench.call(3, 0, 0, 16));
        check.is("3 of one", -5, bench.call(3, 0, 0, 0));
        check.is("how many", 3, bench.house.enclave(0, 4));
        int[] due = {1, 0, -1, 252, 256, -1};
        for (int what = 0; what < 6; what++) {
            check.is("thread " + what, due[what], bench.house.thread(0, what));
        }
        check.is("no what", -1, bench.house.thread(0, -1));
        check.is("no thread", -1, bench.house.thread(12, 0));
        check.is("no thread", -1, bench.house.thread(-1, 0));
        check.is("none there", 0, bench.house.thread(11, 0));
        check.is("none there", -1, bench.house.thread(11, 1));
        for (int i = 1; i < 4; i++) {
            bench.call(1, 0x8000 + 256 * i, 256);
            for (int k = 0; k < 3; k++) {
                check.is("thread", 3 * i + k, bench.call(3, i, 0, 0));
            }
        }
        bench.call(1, 0x9000, 256);
        check.is("12 in all", -5, bench.call(3, 4, 0, 0));
        bench.call(8, 1);
        check.is("the least free", 3, bench.call(3, 4, 0, 0));
        check.is("inside before it is entered", 0, bench.house.inside(3, 32));
        bench.call(4, 4, 0);
        check.is("not LOADING", -2, bench.call(3, 4, 0, 0));
        check.is("BAD comes first", -1, bench.call(3, 4, 1, 0));
    }

    private static void finalise() {
        check.terms(6, 13, "4 FINALISE enclave p with FLAGS q (0, 1). STATE: not LOADING. 0; READY.");
        Bench bench = new Bench(1);
        bench.call(1, 0x8000, 256);
        check.is("no flags", -1, bench.call(4, 0, 2));
        check.is("no flags", -1, bench.call(4, 0, -1));
        check.is("no enclave", -1, bench.call(4, 1, 0));
        check.is("flags while LOADING", -1, bench.house.enclave(0, 3));
        check.is("FINALISE", 0, bench.call(4, 0, 1));
        check.is("READY", 2, bench.house.enclave(0, 0));
        check.is("flags", 1, bench.house.enclave(0, 3));
        check.is("again", -2, bench.call(4, 0, 1));
    }

    private static void enter() {
        check.terms(6, 13, "5 ENTER THREAD p with q (x10) and r (x11). STATE: the enclave is not READY, or it is "
            + "not IDLE.");
        check.promise(9, "Register n of a THREAD, n = 32 its PC (all 0 before it is ENTERED first); 0: there is "
            + "none such.");
        Bench bench = new Bench(1);
        bench.call(1, 0x8000, 256);
        bench.call(3, 0, 16, 64);
        check.is("not READY", -2, bench.call(5, 0, 0, 0));
        bench.call(4, 0, 0);
        check.is("no thread", -1, bench.call(5, 1, 0, 0));
        check.is("no thread", -1, bench.call(5, -1, 0, 0));
        check.is("no thread", -1, bench.call(5, 12, 0, 0));
        check.is("ENTER", 0, bench.house.call(1, 5, 0, -3, 4, 9));
        check.is("its PC", 0x8010, bench.house.inside(0, 32));
        for (int n = 0; n < 32; n++) {
            int due = n == 2 ? 0x8040 : n == 10 ? -3 : n == 11 ? 4 : 0;
            check.is("its x" + n, due, bench.house.inside(0, n));
        }
        check.is("RUNNING", 2, bench.house.thread(0, 0));
        check.is("on hart 1", 1, bench.house.thread(0, 2));
        check.is("hart 1", 0, bench.house.count(9));
        check.is("hart 0", -1, bench.house.count(8));
        check.is("not IDLE", -2, bench.call(5, 0, 0, 0));
        check.is("nor to be resumed", -2, bench.call(6, 0, 0));
        check.is("BUSY", -3, bench.call(7, 0));
        check.is("inside of none", 0, bench.house.inside(0, 33) | bench.house.inside(0, -1) | bench.house.inside(12, 2)
            | bench.house.inside(-1, 2) | bench.house.inside(1, 2));
    }

    private static void resume() {
        check.terms(6, 13, "6 RESUME THREAD p with q. STATE: not READY, or neither INTERRUPTED nor YIELDED.");
        Bench bench = ready(0);
        check.is("IDLE", -2, bench.call(6, 0, 0));
        check.is("no thread", -1, bench.call(6, 12, 0));
        bench.enter(0, 1, 2);
        check.is("YIELDED", 4, bench.house.thread(0, 0));
        check.is("not IDLE", -2, bench.call(5, 0, 0, 0));
        bench.house.poke(0, Code.WAIT, 0, 0, 0, 0);
        bench.house.place(1, 0, 1);
        bench.house.run(1);
        check.is("hart 1 waits", 1, bench.house.count(11));
        check.is("RESUME", 0, bench.house.call(1, 6, 0, 99, 0, 0));
        check.is("hart 1 waits no more", 0, bench.house.count(11));
        check.is("x10 is given", 99, bench.house.inside(0, 10));
        check.is("on hart 1 now", 1, bench.house.thread(0, 2));
        bench.house.run(8);
        check.is("IDLE again", 1, bench.house.thread(0, 0));
        check.is("the value", 6, bench.house.register(1, 11));
        bench.call(7, 0);
        check.is("the enclave is STOPPED", -2, bench.call(5, 0, 0, 0));
    }

    private static void stopAndDestroy() {
        check.terms(6, 13, "7 STOP enclave p. STATE: not READY. BUSY: a THREAD of it is RUNNING. 0; STOPPED. 8 "
            + "DESTROY enclave p. STATE: READY. All bytes of its REGION become 0;");
        Bench bench = ready(0);
        check.is("no enclave", -1, bench.call(7, 1));
        check.is("no enclave", -1, bench.call(8, 6));
        check.is("READY ones are not destroyed", -2, bench.call(8, 0));
        check.is("STOP", 0, bench.call(7, 0));
        check.is("STOPPED", 3, bench.house.enclave(0, 0));
        check.is("STOP again", -2, bench.call(7, 0));
        check.is("the bytes are there", false, bench.house.inner(0x8000) == 0);
        check.is("DESTROY", 0, bench.call(8, 0));
        check.is("the bytes are 0", 0, bench.house.inner(0x8000));
        check.is("it is open now", 0, bench.house.poke(0x8000, 1, 2, 3, 4, 5));
        check.is("no thread", 0, bench.house.thread(0, 0));
        check.is("none there", -1, bench.call(8, 0));
        bench.call(1, 0x9000, 256);
        check.is("STOP while LOADING", -2, bench.call(7, 0));
        check.is("DESTROY while LOADING", 0, bench.call(8, 0));
    }

    private static void destroyTakesAll() {
        check.terms(6, 13, "its THREADS, BOX, SHARED REGIONS, LINKS, EXTRA (as with DROP), and it itself are no "
            + "more;");
        Bench bench = ready(0);
        bench.call(1, 0x9000, 256);
        bench.call(9, 0, 0xa000, 256);
        bench.call(9, 1, 0xb000, 256);
        bench.call(10, 1, 0, 0xc000, 256);
        bench.call(20, 0, 0xd000, 256);
        bench.house.poke(0xa000, 1, 2, 3, 4, 5);
        check.is("regions", 6, bench.house.count(3));
        bench.call(7, 0);
        bench.call(8, 0);
        int[] due = {0, 1, 0, 2, 0, 0};
        for (int i = 0; i < 6; i++) {
            check.is("region " + i, due[i], bench.house.region(i, 0));
        }
        check.is("what was shared stays", 1, bench.house.word(0xa000));
        check.is("its place is free", 0, bench.call(1, 0xc000, 256));
    }

    private static void share() {
        check.terms(6, 13, "9 SHARE with enclave p: SPAN q, r. STATE: STOPPED. OVERLAP. FULL: 12 REGIONS. The "
            + "REGION.");
        Bench bench = ready(0);
        check.is("no enclave", -1, bench.call(9, 1, 0xa000, 256));
        check.is("no span", -1, bench.call(9, 0, 0xa080, 256));
        check.is("OVERLAP", -4, bench.call(9, 0, 0x8000, 256));
        bench.house.poke(0xa000, 1, 2, 3, 4, 5);
        check.is("SHARE", 1, bench.call(9, 0, 0xa000, 512));
        check.is("nothing becomes 0", 1, bench.house.word(0xa000));
        int[] due = {2, 0xa000, 512, 0, -1, 0, -1};
        for (int what = 0; what < 7; what++) {
            check.is("region " + what, due[what], bench.house.region(1, what));
        }
        bench.call(7, 0);
        check.is("STOPPED", -2, bench.call(9, 0, 0xa000, 256));
        check.is("BAD comes first", -1, bench.call(9, 0, 0xa000, 257));
    }

    private static void links() {
        check.terms(6, 13, "10 LINK of enclaves p and q (BAD also: the same): SPAN r, s. STATE: one is STOPPED. "
            + "OVERLAP. FULL. All bytes of it are 0 then; the REGION.");
        Bench bench = ready(0);
        bench.call(1, 0x9000, 256);
        check.is("the same", -1, bench.call(10, 0, 0, 0xa000, 256));
        check.is("no enclave", -1, bench.call(10, 0, 2, 0xa000, 256));
        check.is("no enclave", -1, bench.call(10, 2, 0, 0xa000, 256));
        check.is("no span", -1, bench.call(10, 0, 1, 0xa000, 128));
        check.is("OVERLAP", -4, bench.call(10, 0, 1, 0x8000, 4096));
        bench.house.poke(0xa000, 1, 2, 3, 4, 5);
        check.is("LINK", 2, bench.call(10, 1, 0, 0xa000, 256));
        check.is("its bytes are 0", 0, bench.house.inner(0xa000));
        check.is("it is not open", -1, bench.house.poke(0xa000, 1, 2, 3, 4, 5));
        int[] due = {3, 0xa000, 256, 1, 0, 0};
        for (int what = 0; what < 6; what++) {
            check.is("region " + what, due[what], bench.house.region(2, what));
        }
        bench.call(7, 0);
        check.is("one is STOPPED", -2, bench.call(10, 1, 0, 0xb000, 256));
        check.is("one is STOPPED", -2, bench.call(10, 0, 1, 0xb000, 256));
    }

    private static void drop() {
        check.terms(6, 13, "11 DROP REGION p. BAD also: a PRIVATE one. All bytes of a LINK, of EXTRA become 0; it "
            + "is no more. 0.");
        Bench bench = ready(0);
        bench.call(9, 0, 0xa000, 256);
        bench.call(20, 0, 0xb000, 256);
        bench.house.poke(0xa000, 1, 2, 3, 4, 5);
        check.is("a PRIVATE one", -1, bench.call(11, 0));
        check.is("none", -1, bench.call(11, 3));
        check.is("none", -1, bench.call(11, -1));
        check.is("none", -1, bench.call(11, 12));
        check.is("DROP", 0, bench.call(11, 1));
        check.is("it is no more", 0, bench.house.region(1, 0));
        check.is("its bytes stay", 1, bench.house.word(0xa000));
        check.is("again", -1, bench.call(11, 1));
        check.is("DROP of EXTRA", 0, bench.call(11, 2));
        check.is("it is open", 0, bench.house.poke(0xb000, 1, 2, 3, 4, 5));
    }

    private static void offer() {
        check.terms(6, 13, "20 OFFER enclave p: SPAN q, r, as EXTRA. STATE: not READY. OVERLAP. FULL. All bytes of "
            + "it are 0 then; the REGION.");
        Bench bench = ready(0);
        bench.call(1, 0x9000, 256);
        check.is("not READY", -2, bench.call(20, 1, 0xa000, 256));
        check.is("no enclave", -1, bench.call(20, 2, 0xa000, 256));
        check.is("no span", -1, bench.call(20, 0, 0xa100, 512));
        check.is("OVERLAP", -4, bench.call(20, 0, 0x9000, 256));
        bench.house.poke(0xa000, 1, 2, 3, 4, 5);
        check.is("OFFER", 2, bench.call(20, 0, 0xa000, 256));
        check.is("its bytes are 0", 0, bench.house.inner(0xa000));
        check.is("its sort", 4, bench.house.region(2, 0));
        check.is("its enclave", 0, bench.house.region(2, 3));
        check.is("it is not open", -1, bench.house.poke(0xa000, 1, 2, 3, 4, 5));
    }

    private static void machineCalls() {
        check.terms(6, 13, "12 PUT: the lowest byte of p goes to the CONSOLE. FULL: it has 1,024. How many it has. "
            + "13 SIGNAL hart p: bit 1 of PENDING there is set. 0.");
        check.terms(6, 13, "19 SLICE of this hart is p, 0 .. 100,000 (0 at first). 0.");
        Bench bench = new Bench(1);
        for (int i = 1; i <= 400; i++) {
            bench.call(12, i);
        }
        // The rest by the system itself, so that the object has calls left.
        bench.system(0x100, new Code().set(17, 12).set(10, 0x1ff).word(Code.CALL).word(Code.jumping(0, -12)));
        bench.stillHart1();
        check.is("PUT", 400, bench.house.count(6));
        bench.house.run(2000);
        bench.house.run(600);
        check.is("the console is full", 1024, bench.house.count(6));
        check.is("FULL", -5, bench.call(12, 1));
        check.is("the first byte", 1, bench.house.console(0));
        check.is("byte 299", 300 & 255, bench.house.console(299));
        check.is("the last byte", 255, bench.house.console(1023));
        check.is("none", -1, bench.house.console(1024));
        check.is("none", -1, bench.house.console(-1));
        check.is("SIGNAL", 0, bench.call(13, 1));
        check.is("signalled", 2, bench.house.control(1, 0x144));
        check.is("no hart", -1, bench.call(13, 2));
        check.is("no hart", -1, bench.call(13, -1));
        check.is("no slice", -1, bench.call(19, -1));
        check.is("no slice", -1, bench.call(19, 100001));
        check.is("SLICE", 0, bench.call(19, 100000));
    }

    private static void disk() {
        check.terms(6, 13, "14 DMA (8): p 0 to MEMORY, 1 from there; sector q, 0 .. 31; place r, a multiple of 4, "
            + "all 256 bytes of which there are. FULL: 4 wait. How many wait.");
        Bench bench = new Bench(1);
        int[][] bad = {
            {2, 0, 0}, {-1, 0, 0}, {0, 32, 0}, {0, -1, 0}, {0, 0, 2}, {0, 0, 1}, {0, 0, -4}, {0, 0, 131072 - 252}
        };
        for (int[] one : bad) {
            check.is("DMA " + one[0] + " " + one[1] + " " + one[2], -1, bench.call(14, one));
        }
        check.is("one waits", 1, bench.call(14, 1, 31, 131072 - 256));
        check.is("two wait", 2, bench.call(14, 0, 0, 0));
        check.is("three wait", 3, bench.call(14, 0, 0, 0));
        check.is("four wait", 4, bench.call(14, 0, 0, 0));
        check.is("FULL", -5, bench.call(14, 0, 0, 0));
        check.is("BAD comes first", -1, bench.call(14, 2, 0, 0));
        check.is("none told", 0, bench.call(15));
    }

    private static void measureAndLook() {
        check.terms(6, 13, "16 MEASURE: word q (0 .. 7) of the MEASUREMENT of enclave p, its highest byte being the "
            + "earliest. STATE: LOADING. 17 LOOK at offset q (a multiple of 4 below the size) of enclave p: the "
            + "word. DENIED: not DEBUG, or LOADING.");
        Bench bench = ready(1);
        bench.enclave(0x9000, 256, 0, new Code().exit(1));
        bench.call(1, 0xa000, 256);
        check.is("no enclave", -1, bench.call(16, 3, 0));
        check.is("no word", -1, bench.call(16, 0, 8));
        check.is("no word", -1, bench.call(16, 0, -1));
        check.is("LOADING", -2, bench.call(16, 2, 0));
        check.is("LOOK", bench.house.inner(0x8004), bench.call(17, 0, 4));
        check.is("LOOK at the last word", 0, bench.call(17, 0, 1020));
        check.is("no offset", -1, bench.call(17, 0, 1024));
        check.is("no offset", -1, bench.call(17, 0, 2));
        check.is("no offset", -1, bench.call(17, 0, 1));
        check.is("no offset", -1, bench.call(17, 0, -4));
        check.is("no enclave", -1, bench.call(17, 3, 0));
        check.is("not DEBUG", -6, bench.call(17, 1, 0));
        check.is("LOADING", -6, bench.call(17, 2, 0));
        bench.call(7, 0);
        check.is("LOOK when STOPPED", bench.house.inner(0x8000), bench.call(17, 0, 0));
    }

    private static void regionsShown() {
        check.promise(20, "Of a REGION: what = 0 its SORT (0: none), 1 base, 2 size, 3 its enclave, 4 the other "
            + "enclave of a LINK (NONE), 5 who ACCEPTED it: 1 the first, 2 the other one, together. NONE: no such "
            + "number or what; but for 0, if it is not there.");
        Bench bench = ready(0);
        int[] due = {1, 0x8000, 1024, 0, -1, 0};
        for (int what = 0; what < 6; what++) {
            check.is("region " + what, due[what], bench.house.region(0, what));
        }
        check.is("no what", -1, bench.house.region(0, 6));
        check.is("no what", -1, bench.house.region(0, -1));
        check.is("none there", 0, bench.house.region(1, 0));
        check.is("none there", -1, bench.house.region(1, 1));
        check.is("no region", -1, bench.house.region(12, 0));
        check.is("no region", -1, bench.house.region(-1, 0));
    }

    private static void entriesOfTheSystem() {
        check.promise(21, "Of ENTRY i of a hart, as it is now: what = 0 base, 1 size, 2 RIGHTS. NONE: there is none "
            + "such.");
        check.terms(4, 21, "With the system: for each REGION that is not OPEN, by numbers, one without RIGHTS; then "
            + "one of all MEMORY with all.");
        Bench bench = ready(0);
        bench.call(9, 0, 0xa000, 256);
        bench.call(20, 0, 0xb000, 512);
        int[][] due = {{0x8000, 1024, 0}, {0xb000, 512, 0}, {0, 131072, 7}, {-1, -1, -1}};
        for (int i = 0; i < due.length; i++) {
            for (int what = 0; what < 3; what++) {
                check.is("entry " + i + " " + what, due[i][what], bench.house.entry(1, i, what));
            }
        }
        check.is("no what", -1, bench.house.entry(0, 0, 3));
        check.is("no what", -1, bench.house.entry(0, 0, -1));
        check.is("no entry", -1, bench.house.entry(0, -1, 0));
        check.is("no hart", -1, bench.house.entry(2, 0, 0));
        check.is("no hart", -1, bench.house.entry(-1, 0, 0));
    }

    /** A LINK has four numbers, so all of them have to come from the right registers. */
    private static void fourNumbersBySystemCode() {
        check.terms(6, 14, "x17 says which one; x10 to x13 are p, q, r, s; x10 becomes the answer;");
        Bench bench = ready(0);
        bench.call(1, 0x9000, 256);
        bench.stillHart1();
        bench.system(0x100, new Code().set(12, 0xb000).set(13, 512).set(14, 3).call(10, 1, 0));
        bench.house.run(13);
        check.is("LINK", 2, bench.house.register(0, 10));
        check.is("what it is", "3 45056 512 1 0", bench.house.region(2, 0) + " " + bench.house.region(2, 1) + " "
            + bench.house.region(2, 2) + " " + bench.house.region(2, 3) + " " + bench.house.region(2, 4));
    }

    /** Numbers are used again: nothing of who had them before is left. */
    private static void usedAgain() {
        check.terms(6, 13, "(the least free, as with all numbers here);");
        check.promise(9, "(all 0 before it is ENTERED first);");
        Bench bench = new Bench(1);
        Code code = new Code().call(43, 0x8080, 0).call(36, 0x80f0, 4).call(38, 1, 0).exit(5);
        int thread = bench.enclave(0x8000, 256, 0, code);
        bench.call(9, 0, 0xa000, 256);
        bench.enter(thread, 1, 2);
        check.is("accepted", 1, bench.house.region(1, 5));
        check.is("asked", 1, bench.house.enclave(0, 7));
        bench.call(11, 1);
        check.is("the same number", 1, bench.call(9, 0, 0xb000, 256));
        check.is("not accepted", 0, bench.house.region(1, 5));
        bench.call(7, 0);
        bench.call(8, 0);
        bench.call(1, 0x8000, 256);
        check.is("not asked", 0, bench.house.enclave(0, 7));
        check.is("the same thread", thread, bench.call(3, 0, 0, 0));
        check.is("nothing inside", 0, bench.house.inside(thread, 32) | bench.house.inside(thread, 10));
    }

    private static void bySystemCode() {
        check.terms(6, 14, "x10 becomes the answer; the PC goes on by 4 (of the system that began a THREAD, too).");
        check.terms(6, 14, "(Of 5 and 6 there is an answer only if they are refused.)");
        Bench bench = ready(0);
        bench.system(0x100, new Code().call(12, 65, 0).call(99, 0, 0).call(5, 0, 21));
        bench.stillHart1();
        bench.house.run(7);
        check.is("PUT answers", 1, bench.house.register(0, 10));
        bench.house.run(7);
        check.is("no such call", -1, bench.house.register(0, 10));
        bench.house.run(7);
        check.is("it runs", 0, bench.house.count(8));
        check.is("the system's PC goes on", 0x100 + 84, bench.house.count(14));
        check.is("its x10 is as it was", 0, bench.house.register(0, 10));
        check.is("its x10 is given", 21, bench.house.inside(0, 10));
        bench.runThread();
        check.are("YIELD", "1 5 0", bench.house.register(0, 10), bench.house.register(0, 11),
            bench.house.register(0, 12));
        check.is("the system's PC", 0x100 + 84, bench.house.count(14));
    }
}
