/** Promises 13 to 17, 23 and 24: THE DISK, the CONSOLE, keys, and the PATH to the user. */
public final class DeviceTest {
    private static final Check check = new Check("DeviceTest");

    public static void main(String[] args) {
        check.look(args);
        diskBytes();
        toMemory();
        fromMemory();
        inOrder();
        oneByOne();
        failures();
        dmaTakesReservations();
        keysForTheSystem();
        path();
        pathRefusals();
        pathOfAnother();
        pathGoesWithTheEnclave();
        console();
        check.end();
    }

    private static void diskBytes() {
        check.promise(24, "Byte k (0 .. 255) of a sector of THE DISK becomes v (0 .. 255), -1: it stays: what it "
            + "was. NONE: no such one.");
        EnclaveHouse house = new EnclaveHouse(1);
        check.is("it was 0", 0, house.disk(0, 0, 255));
        check.is("it was 255", 255, house.disk(0, 0, 1));
        check.is("it stays", 1, house.disk(0, 0, -1));
        check.is("it stayed", 1, house.disk(0, 0, -1));
        check.is("to 0", 1, house.disk(0, 0, 0));
        check.is("it is 0", 0, house.disk(0, 0, 1));
        check.is("the last one", 0, house.disk(31, 255, 9));
        check.is("the last one", 9, house.disk(31, 255, -1));
        int[][] bad = {{32, 0, 1}, {-1, 0, 1}, {0, 256, 1}, {0, -1, 1}, {0, 0, 256}, {0, 0, -2}};
        for (int[] one : bad) {
            check.is("no such one", -1, house.disk(one[0], one[1], one[2]));
        }
        check.is("it stayed", 1, house.disk(0, 0, -1));
    }

    private static void toMemory() {
        check.terms(8, 14, "At the end of each ROUND each has waited for one more (0 when it came); then the first "
            + "one, if it has waited for 5 or more, is done (one in a ROUND): the bytes go from the sector to "
            + "MEMORY,");
        check.terms(6, 13, "15 TOLD: how many DMAs were done that were not told,");
        Bench bench = new Bench(1);
        EnclaveHouse house = bench.house;
        house.disk(3, 0, 0x11);
        house.disk(3, 3, 0x22);
        house.disk(3, 255, 0x33);
        house.disk(4, 0, 0x44);
        bench.call(14, 0, 3, 0x2004);
        house.run(4);
        check.is("it waits", 1, house.count(7));
        check.is("nothing came", 0, house.word(0x2004));
        check.is("nothing pending", 0, house.control(0, 0x144));
        house.run(1);
        check.is("it waits no more", 0, house.count(7));
        check.is("done", 1, house.count(17));
        check.is("its first word", 0x22000011, house.word(0x2004));
        check.is("its last word", 0x33000000, house.word(0x2100));
        check.is("no more", 0, house.word(0x2104));
        check.is("pending", 512, house.control(0, 0x144) & house.control(1, 0x144));
        check.is("TOLD", 1, bench.call(15));
        check.is("told", 0, house.count(17));
        check.is("no more pending", 0, house.control(0, 0x144));
        check.is("TOLD again", 0, bench.call(15));
        bench.call(14, 0, 4, 0x2000);
        house.run(4);
        check.is("the next one waits as long", 1, house.count(7));
        house.run(1);
        check.is("and is done", 0x44, house.word(0x2000));
    }

    private static void fromMemory() {
        check.terms(8, 14, "the bytes go from the sector to MEMORY, or back,");
        Bench bench = new Bench(1);
        bench.house.poke(0x2000, 0x04030201, 5, 6, 7, 8);
        bench.call(14, 1, 31, 0x2000);
        bench.house.run(5);
        check.is("byte 0", 1, bench.house.disk(31, 0, -1));
        check.is("byte 3", 4, bench.house.disk(31, 3, -1));
        check.is("byte 16", 8, bench.house.disk(31, 16, -1));
        check.is("not the sector before", 0, bench.house.disk(30, 255, -1));
    }

    private static void inOrder() {
        check.terms(8, 14, "Requests wait in order.");
        check.terms(8, 14, "is done (one in a ROUND):");
        Bench bench = new Bench(1);
        bench.house.disk(0, 0, 1);
        bench.call(14, 0, 0, 0x2000);
        bench.call(14, 1, 1, 0x2000);
        bench.call(14, 1, 2, 0x3000);
        bench.house.run(2);
        bench.call(14, 0, 1, 0x3000);
        int[][] due = {{3, 4, 0}, {1, 3, 1}, {1, 2, 2}, {1, 1, 3}, {1, 0, 4}};
        for (int[] one : due) {
            bench.house.run(one[0] == 3 ? 2 : 1);
            check.is("wait", one[1], bench.house.count(7));
            check.is("done", one[2], bench.house.count(17));
        }
        check.is("the second saw the first's bytes", 1, bench.house.disk(1, 0, -1));
        check.is("the third came ahead of the fourth", 0, bench.house.disk(2, 0, -1));
        check.is("the fourth", 1, bench.house.word(0x3000));
        check.is("TOLD", 4, bench.call(15));
    }

    /** Each waits from when it came, also when others go ahead of it. */
    private static void oneByOne() {
        check.terms(8, 14, "each has waited for one more (0 when it came); then the first one, if it has waited for "
            + "5 or more, is done");
        Bench bench = new Bench(1);
        bench.call(14, 0, 0, 0x2000);
        bench.house.run(4);
        bench.call(14, 0, 0, 0x2000);
        bench.house.run(1);
        check.is("the first is done", "1 1", bench.house.count(7) + " " + bench.house.count(17));
        bench.house.run(3);
        check.is("the second waits", "1 1", bench.house.count(7) + " " + bench.house.count(17));
        bench.house.run(1);
        check.is("the second is done", "0 2", bench.house.count(7) + " " + bench.house.count(17));
    }

    private static void failures() {
        check.terms(8, 14, "if all those of MEMORY are OPEN then; else it FAILED.");
        check.terms(6, 13, "and 256 times how many of these FAILED; they are told then.");
        Bench bench = new Bench(1);
        bench.house.disk(0, 0, 1);
        bench.call(14, 0, 0, 0x8000 - 252);
        bench.call(14, 1, 1, 0x8000);
        bench.call(14, 0, 0, 0x9000);
        bench.call(14, 0, 0, 0x7f00);
        bench.call(1, 0x8000, 256);
        bench.call(9, 0, 0x9000, 256);
        bench.house.secret(0, 0, 99);
        bench.house.run(8);
        check.is("right ahead of an enclave", 1, bench.house.word(0x7f00));
        check.is("done", 4, bench.house.count(17));
        check.is("failed", 2, bench.house.count(18));
        check.is("nothing came", 0, bench.house.word(0x8000 - 252));
        check.is("nothing went", 0, bench.house.disk(1, 0, -1));
        check.is("a shared region is open", 1, bench.house.word(0x9000));
        check.is("TOLD", 4 + 2 * 256, bench.call(15));
        check.is("told", 0, bench.house.count(18));
    }

    private static void dmaTakesReservations() {
        check.terms(2, 14, "stored by anybody (also by the monitor, which makes bytes 0 or writes them, by LOAD, a "
            + "device,");
        Bench bench = new Bench(1);
        bench.stillHart1();
        bench.system(0x100, new Code().set(5, 0x2000).word(Code.inMemory(2, 7, 5, 0)).word(Code.NOTHING)
            .word(Code.NOTHING).word(Code.inMemory(3, 8, 5, 0)));
        bench.call(14, 0, 0, 0x2000);
        bench.house.run(6);
        check.is("a device stored there", 1, bench.house.register(0, 8));
    }

    private static void keysForTheSystem() {
        check.promise(15, "The user types a key: 1 if it waits on the PATH now, 0 if for the system. NONE: it is no "
            + "key, or lost.");
        check.terms(6, 13, "21 KEYS: the key that waits longest for the system; 256: none does.");
        Bench bench = new Bench(1);
        check.is("no key", -1, bench.house.type(-1));
        check.is("no key", -1, bench.house.type(256));
        check.is("none", 256, bench.call(21));
        for (int i = 0; i < 16; i++) {
            check.is("it waits for the system", 0, bench.house.type(255 - i));
        }
        check.is("lost", -1, bench.house.type(1));
        check.is("keys", 16, bench.house.count(19));
        check.is("pending", 512, bench.house.control(1, 0x144));
        for (int i = 0; i < 16; i++) {
            check.is("KEYS", 255 - i, bench.call(21));
        }
        check.is("none", 256, bench.call(21));
        check.is("not pending", 0, bench.house.control(1, 0x144));
        check.is("room again", 0, bench.house.type(0));
        check.is("key 0", 0, bench.call(21));
    }

    private static void path() {
        check.terms(8, 15, "While an enclave has it, keys that are typed wait on it (16 at most, others are lost), "
            + "else for the system (16 likewise). When it is claimed, or released, nothing waits on it, and the "
            + "PANEL is empty.");
        check.promise(16, "Byte i of the PANEL, as the user sees it; NONE.");
        Bench bench = new Bench(1);
        Code code = new Code().callTo(20, 45, 0, 0).call(33, 0, 0).callTo(21, 48, 0, 0).callTo(22, 47, 0x1ab, 0)
            .callTo(23, 47, 0, 0).callTo(24, 48, 0, 0).callTo(25, 48, 0, 0).call(33, 0, 0).callTo(26, 46, 0, 0).exit(0);
        int thread = bench.enclave(0x8000, 512, 0, code);
        bench.house.type(9);
        bench.enter(thread, 0, 0);
        check.is("CLAIM", 0, bench.house.inside(thread, 20));
        check.is("who has it", 0, bench.house.count(20));
        check.is("keys that wait for the system stay", 1, bench.house.count(19));
        for (int i = 0; i < 16; i++) {
            check.is("it waits on the path", 1, bench.house.type(100 + i));
        }
        check.is("lost", -1, bench.house.type(1));
        check.is("keys on the path", 16, bench.house.count(21));
        bench.call(6, thread, 0);
        bench.runThread();
        check.is("TYPED", 100, bench.house.inside(thread, 21));
        check.is("TYPED", 101, bench.house.inside(thread, 24));
        check.is("SHOW", "1 2", bench.house.inside(thread, 22) + " " + bench.house.inside(thread, 23));
        check.is("the panel", "171 0 -1 -1", bench.house.panel(0) + " " + bench.house.panel(1) + " "
            + bench.house.panel(2) + " " + bench.house.panel(-1));
        check.is("bytes on it", 2, bench.house.count(22));
        check.is("keys on the path", 13, bench.house.count(21));
        bench.call(6, thread, 0);
        bench.runThread();
        check.is("RELEASE", 0, bench.house.inside(thread, 26));
        check.is("nobody has it", -1, bench.house.count(20));
        check.is("nothing waits on it", 0, bench.house.count(21));
        check.is("the panel is empty", 0, bench.house.count(22));
        check.is("the panel is empty", -1, bench.house.panel(0));
        check.is("for the system again", 0, bench.house.type(5));
        check.is("events", "9: 1 0 0, 9: 0 0 0", bench.brief(0) + ", " + bench.brief(3));
    }

    private static void pathRefusals() {
        check.terms(6, 14, "46 RELEASE it. STATE: it has it not. 0. 47 SHOW: the lowest byte of p comes onto the "
            + "PANEL. STATE as before. FULL: 64 are there. How many are. 48 TYPED: the key that waits longest on "
            + "the PATH; 256: none does. STATE as before.");
        Bench bench = new Bench(1);
        Code code = new Code().callTo(20, 46, 0, 0).callTo(21, 47, 1, 0).callTo(22, 48, 0, 0).callTo(23, 45, 0, 0)
            .callTo(24, 45, 0, 0).callTo(25, 48, 0, 0);
        int loop = code.size();
        code.set(10, 7).set(17, 47).word(Code.CALL).word(Code.branching(5, 10, 0, -20)).exit(0);
        int thread = bench.enclave(0x8000, 512, 0, code);
        check.is("where the loop is", 192, loop);
        bench.call(5, thread, 0, 0);
        bench.house.run(600);
        check.is("it did EXIT", 1, bench.house.thread(thread, 0));
        int[] due = {-2, -2, -2, 0, -2, 256};
        for (int i = 0; i < due.length; i++) {
            check.is("path number " + i, due[i], bench.house.inside(thread, 20 + i));
        }
        check.is("the panel is full", 64, bench.house.count(22));
        check.is("its last byte", 7, bench.house.panel(63));
        check.is("none", -1, bench.house.panel(64));
    }

    private static void pathOfAnother() {
        check.terms(6, 14, "45 CLAIM the PATH (8). STATE: it has it. BUSY: another one has. 0. 46 RELEASE it. "
            + "STATE: it has it not.");
        Bench bench = new Bench(1);
        Code code = new Code().callTo(20, 45, 0, 0).callTo(21, 46, 0, 0).callTo(22, 47, 0, 0).exit(0);
        int owner = bench.enclave(0x9000, 256, 0, new Code().call(45, 0, 0).exit(0));
        int other = bench.enclave(0x8000, 256, 0, code);
        bench.enter(owner, 0, 0);
        bench.enter(other, 0, 0);
        check.is("BUSY", -3, bench.house.inside(other, 20));
        check.is("it has it not", -2, bench.house.inside(other, 21));
        check.is("it has it not", -2, bench.house.inside(other, 22));
        check.is("who has it", 0, bench.house.count(20));
    }

    private static void pathGoesWithTheEnclave() {
        check.terms(6, 13, "the PATH, if it has that, is released (no EVENT). 0.");
        Bench bench = new Bench(1);
        int owner = bench.enclave(0x9000, 256, 0, new Code().call(45, 0, 0).call(47, 65, 0).exit(0));
        bench.enter(owner, 0, 0);
        bench.house.type(1);
        bench.call(7, 0);
        check.is("a STOPPED one keeps it", 0, bench.house.count(20));
        int events = bench.house.count(5);
        bench.call(8, 0);
        check.is("nobody has it", -1, bench.house.count(20));
        check.is("nothing waits, nothing is shown", 0, bench.house.count(21) + bench.house.count(22));
        check.is("no event", events, bench.house.count(5));
    }

    private static void console() {
        check.promise(23, "Byte i of the CONSOLE; NONE.");
        check.terms(6, 13, "12 PUT: the lowest byte of p goes to the CONSOLE.");
        Bench bench = new Bench(1);
        check.is("PUT", 1, bench.call(12, 0x141));
        check.is("PUT", 2, bench.call(12, -1));
        check.is("the bytes", "65 255 -1 -1", bench.house.console(0) + " " + bench.house.console(1) + " "
            + bench.house.console(2) + " " + bench.house.console(-1));
    }
}
