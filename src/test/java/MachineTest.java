/** Promises 1 to 5, 7, 8, 10, 11, 12, 14, 17 and 28: the machine without enclaves, and its edges. */
public final class MachineTest {
    private static final int[] CONTROLS = {
        0x100, 0x104, 0x105, 0x140, 0x141, 0x142, 0x143, 0x144, 0x14d, 0x180, 0xc01, 0xf14
    };
    private static final Check check = new Check("MachineTest");

    public static void main(String[] args) {
        check.look(args);
        newObject();
        boot();
        bootOfAll();
        poke();
        wordsOfMemory();
        secret();
        registers();
        place();
        controlMasks();
        controlRefusals();
        rounds();
        line();
        goingOff();
        counts();
        check.end();
    }

    private static void newObject() {
        check.promise(1, "A machine with a seed, as behind boot(0); THE DISK is 0, no MEASUREMENT has a COUNTER.");
        EnclaveHouse house = new EnclaveHouse(9);
        int[] due = {0, 0, 0, 0, 0, 0, 0, 0, -1, -1, 0, 0, 1, 1, 0, 0, 0, 0, 0, 0, -1, 0, 0};
        for (int what = 0; what < due.length; what++) {
            check.is("count(" + what + ") at first", due[what], house.count(what));
        }
        for (int hart = 0; hart < 2; hart++) {
            for (int control : CONTROLS) {
                int first = control == 0x14d ? -1 : control == 0xf14 ? hart : 0;
                check.is("control " + control + " at first", first, house.control(hart, control));
            }
        }
        check.is("a new object is as behind boot(0)", house.outside(), bootedTo(0, 9).outside());
        check.is("disk at first", 0, house.disk(31, 255, -1));
    }

    private static EnclaveHouse bootedTo(int version, int seed) {
        EnclaveHouse house = new EnclaveHouse(seed);
        house.boot(version);
        return house;
    }

    private static void boot() {
        check.promise(2, "All is as at first, with a version, but for THE DISK and COUNTERS: how many enclaves "
            + "there were.");
        EnclaveHouse house = new EnclaveHouse(1);
        long fresh = house.outside();
        house.poke(0, 1, 2, 3, 4, 5);
        house.setRegister(1, 5, 6);
        house.setControl(0, 0x14d, 3);
        house.setControl(1, 0x144, 2);
        house.place(0, 64, 0);
        house.line(true);
        house.type(7);
        house.call(0, 1, 0x8000, 256, 0, 0);
        house.call(0, 1, 0x9000, 256, 0, 0);
        house.call(0, 12, 65, 0, 0, 0);
        house.call(0, 14, 0, 0, 0, 0);
        house.call(0, 19, 7, 0, 0, 0);
        house.run(6);
        house.call(0, 18, 0, 0, 0, 0);
        check.is("enclaves before boot", 2, house.boot(3));
        check.is("outside behind boot", fresh, house.outside());
        check.is("enclaves before the next boot", 0, house.boot(3));
        check.is("the line behind boot", false, house.line(false));
        check.is("generation behind boot", 0, house.enclave(0, 5));
        house.disk(3, 4, 99);
        house.boot(-1);
        check.is("the disk outlives boot", 99, house.disk(3, 4, -1));
    }

    /** Everything that boot() puts back is another before. */
    private static void bootOfAll() {
        check.promise(2, "(No EVENTS, TIME 0, both harts in S with the PC 0, the LINE off.)");
        Bench bench = new Bench(1);
        EnclaveHouse house = bench.house;
        long fresh = house.outside();
        Code code = new Code().call(38, 1, 0).call(45, 0, 0).call(47, 65, 0).word(Code.jumping(0, 0));
        int thread = bench.enclave(0x8000, 256, 1, code);
        bench.call(9, 0, 0x9000, 256);
        house.poke(0x500, Code.WAIT, 7, 7, 7, 7);
        house.poke(131052, 1, 2, 3, 4, 5);
        bench.call(5, thread, 0, 0);
        house.type(5);
        house.run(30);
        house.type(6);
        house.call(1, 14, 0, 0, 0x8000, 0);
        house.run(5);
        house.call(1, 14, 0, 0, 0, 0);
        house.call(1, 12, 65, 0, 0, 0);
        for (int hart = 0; hart < 2; hart++) {
            for (int control : CONTROLS) {
                house.setControl(hart, control, 0x12345);
            }
            for (int n = 1; n < 32; n++) {
                house.setRegister(hart, n, n);
            }
        }
        // Neither is woken or interrupted by what is pending.
        house.setControl(0, 0x104, 32);
        house.setControl(1, 0x104, 32);
        house.setControl(1, 0x180, 0);
        house.place(0, 0x700, 0);
        house.place(1, 0x500, 1);
        house.call(1, 19, 9, 0, 0, 0);
        house.run(1);
        check.is("before: hart 1 waits, hart 0 runs", "1 0", house.count(11) + " " + house.count(8));
        check.is("before: DMAs", "1 1 1", house.count(7) + " " + house.count(17) + " " + house.count(18));
        house.boot(0);
        for (int what = 0; what < 23; what++) {
            int due = what == 8 || what == 9 || what == 20 ? -1 : what == 12 || what == 13 ? 1 : 0;
            check.is("count(" + what + ") behind boot", due, house.count(what));
        }
        for (int hart = 0; hart < 2; hart++) {
            for (int control : CONTROLS) {
                int first = control == 0x14d ? -1 : control == 0xf14 ? hart : 0;
                check.is("control " + control + " behind boot", first, house.control(hart, control));
            }
        }
        check.is("outside behind boot", fresh, house.outside());
        check.is("no event", 0, house.event(0, 0));
        check.is("no thread", 0, house.thread(thread, 0) + house.inside(thread, 32));
        check.is("no panel", -1, house.panel(0));
        check.is("no console", -1, house.console(0));
        check.is("the first round", 1, house.run(1));
        check.is("both harts trap", "2 2", house.control(0, 0x142) + " " + house.control(1, 0x142));
        logBehindBoot();
    }

    private static void logBehindBoot() {
        check.promise(2, "All is as at first, with a version, ");
        check.terms(7, 2, "The LOG (32 bytes 0 at first) ");
        Bench bench = new Bench(1);
        bench.call(1, 0, 256);
        bench.house.boot(0);
        int thread = bench.enclave(0x8000, 256, 0, new Code().call(50, 0x80c0, 0).exit(0));
        bench.enter(thread, 0, 0);
        int seen = bench.house.inner(0x80c0);
        bench = new Bench(1);
        thread = bench.enclave(0x8000, 256, 0, new Code().call(50, 0x80c0, 0).exit(0));
        bench.enter(thread, 0, 0);
        check.is("the LOG begins again", bench.house.inner(0x80c0), seen);
    }

    private static void poke() {
        check.promise(3, "Five words come to MEMORY, from a place on, as the system would store them (RESERVATIONS "
            + "are lost): 0. NONE, and none comes: the place is no multiple of 4, or a word is not OPEN.");
        EnclaveHouse house = new EnclaveHouse(1);
        check.is("poke", 0, house.poke(0, 1, -2, 3, -4, 5));
        check.is("its words", "1 -2 3 -4 5", words(house, 0));
        check.is("the last place", 0, house.poke(131052, 6, 7, 8, 9, 10));
        check.is("its words", "6 7 8 9 10", words(house, 131052));
        check.is("one word too far", -1, house.poke(131056, 1, 1, 1, 1, 1));
        check.is("nothing came", 7, house.word(131056));
        check.is("no multiple of 4", -1, house.poke(2, 1, 1, 1, 1, 1));
        check.is("an odd place", -1, house.poke(1, 1, 1, 1, 1, 1));
        check.is("below 0", -1, house.poke(-4, 1, 1, 1, 1, 1));
        check.is("far off", -1, house.poke(0x7ffffffc, 1, 1, 1, 1, 1));
        house.call(0, 1, 0x8000, 256, 0, 0);
        check.is("the last word is private", -1, house.poke(0x8000 - 16, 1, 2, 3, 4, 5));
        check.is("nothing came", 0, house.word(0x8000 - 16));
        check.is("ahead of it", 0, house.poke(0x8000 - 20, 1, 2, 3, 4, 5));
        check.is("the first word is private", -1, house.poke(0x80fc, 1, 2, 3, 4, 5));
        check.is("behind it", 0, house.poke(0x8100, 1, 2, 3, 4, 5));
        house.call(0, 9, 0, 0xa000, 256, 0);
        check.is("a shared region is open", 0, house.poke(0xa000, 11, 12, 13, 14, 15));
        check.is("its words", "11 12 13 14 15", words(house, 0xa000));
    }

    private static String words(EnclaveHouse house, int place) {
        StringBuilder text = new StringBuilder();
        for (int i = 0; i < 5; i++) {
            text.append(i == 0 ? "" : " ").append(house.word(place + 4 * i));
        }
        return text.toString();
    }

    private static void wordsOfMemory() {
        check.promise(4, "The word at a place as the system may see it: 0 if it is not OPEN, or there is none.");
        check.promise(5, "The word at a place whatever it is; 0 if there is none.");
        Bench bench = new Bench(1);
        EnclaveHouse house = bench.house;
        house.poke(0x1000, 0x01020304, 2, 3, 4, 5);
        bench.call(1, 0x8000, 256);
        bench.call(2, 0, 0, 0x1000);
        check.is("inner of an enclave", 0x01020304, house.inner(0x8000));
        check.is("word of an enclave", 0, house.word(0x8000));
        check.is("word", 0x01020304, house.word(0x1000));
        check.is("inner", 2, house.inner(0x1004));
        for (int wrong : new int[] {1, 2, 3, 0x1001, 131072, -4, -1, Integer.MIN_VALUE, Integer.MAX_VALUE}) {
            check.is("word(" + wrong + ")", 0, house.word(wrong));
            check.is("inner(" + wrong + ")", 0, house.inner(wrong));
        }
    }

    private static void secret() {
        check.promise(6, "A byte (0 .. 255) of an enclave's PRIVATE REGION becomes another one, as if it had been "
            + "so (no RESERVATION is lost): what it was. NONE: no such enclave, offset, byte.");
        Bench bench = new Bench(1);
        EnclaveHouse house = bench.house;
        bench.call(1, 0x8000, 256);
        check.is("it was 0", 0, house.secret(0, 5, 200));
        check.is("it was 200", 200, house.secret(0, 5, 0x12));
        check.is("the word of it", 0x1200, house.inner(0x8004));
        house.secret(0, 6, 0x34);
        house.secret(0, 5, 0x56);
        check.is("one byte alone", 0x345600, house.inner(0x8004));
        house.secret(0, 6, 0);
        house.secret(0, 5, 0x12);
        check.is("the first one", 0, house.secret(0, 0, 3));
        check.is("the first one", 3, house.secret(0, 0, 0));
        check.is("the last one", 0, house.secret(0, 255, 255));
        check.is("the word of it", 0xff000000, house.inner(0x80fc));
        check.is("no offset", -1, house.secret(0, 256, 1));
        check.is("no offset", -1, house.secret(0, -1, 1));
        check.is("no byte", -1, house.secret(0, 5, 256));
        check.is("no byte", -1, house.secret(0, 5, -1));
        check.is("no enclave", -1, house.secret(1, 5, 1));
        check.is("no enclave", -1, house.secret(-1, 5, 1));
        check.is("no enclave", -1, house.secret(6, 5, 1));
        check.is("it stayed", 0x12, house.secret(0, 5, 0x12));
    }

    private static void registers() {
        check.promise(7, "Register n of the system on a hart becomes v (x0 stays): what it was; 0: there is none "
            + "such.");
        check.promise(8, "That register; 0: there is none such.");
        EnclaveHouse house = new EnclaveHouse(1);
        check.is("it was 0", 0, house.setRegister(0, 31, -9));
        check.is("it was -9", -9, house.setRegister(0, 31, 8));
        check.is("register", 8, house.register(0, 31));
        check.is("the other hart", 0, house.register(1, 31));
        check.is("x0", 0, house.setRegister(1, 0, 5));
        check.is("x0 stays", 0, house.register(1, 0));
        int[][] wrong = {{2, 1}, {-1, 1}, {0, 32}, {0, -1}};
        for (int[] one : wrong) {
            check.is("no such register", 0, house.setRegister(one[0], one[1], 7));
            check.is("no such register", 0, house.register(one[0], one[1]));
        }
    }

    private static void place() {
        check.promise(10, "The system's PC and MODE (0, 1) on a hart become others, and it WAITS no more: 0. NONE: "
            + "no such hart, mode; the PC is no multiple of 4.");
        EnclaveHouse house = new EnclaveHouse(1);
        check.is("place", 0, house.place(1, -4, 0));
        check.is("its pc", -4, house.count(15));
        check.is("its mode", 0, house.count(13));
        check.is("no hart", -1, house.place(2, 0, 0));
        check.is("no hart", -1, house.place(-1, 0, 0));
        check.is("no mode", -1, house.place(0, 8, 2));
        check.is("no mode", -1, house.place(0, 8, -1));
        check.is("no multiple of 4", -1, house.place(0, 6, 1));
        check.is("an odd place", -1, house.place(0, 9, 1));
        check.is("nothing came of it", 0, house.count(14));
        house.poke(0, Code.WAIT, 0, 0, 0, 0);
        house.run(1);
        check.is("it waits", 1, house.count(10));
        house.place(0, 16, 1);
        check.is("it waits no more", 0, house.count(10));
    }

    private static void controlMasks() {
        check.promise(11, "A control register of a hart is written as in S: 0.");
        check.terms(3, 12, "What a write does not keep is 0 (of PENDING only bit 1 is written).");
        EnclaveHouse house = new EnclaveHouse(1);
        int[] kept = {786722, 546, -4, -1, -4, -1, -1, 2, -1, 0x803fffff};
        for (int i = 0; i < kept.length; i++) {
            check.is("setControl", 0, house.setControl(1, CONTROLS[i], -1));
            check.is("what " + CONTROLS[i] + " keeps", kept[i], house.control(1, CONTROLS[i]));
            check.is("the other hart's", i == 8 ? -1 : 0, house.control(0, CONTROLS[i]));
            check.is("setControl", 0, house.setControl(1, CONTROLS[i], 0x5a5a5a5a));
            // COMPARE below TIME would show in PENDING, which comes before it here.
            check.is("what " + CONTROLS[i] + " keeps", 0x5a5a5a5a & kept[i], house.control(1, CONTROLS[i]));
        }
        house.setControl(0, 0x14d, 0);
        check.is("the timer", 32, house.control(0, 0x144));
        house.line(true);
        check.is("the timer and the line", 544, house.control(0, 0x144));
        house.setControl(0, 0x144, 0);
        check.is("only bit 1 is written", 544, house.control(0, 0x144));
    }

    private static void controlRefusals() {
        check.promise(11, "NONE: no such hart; it would be ILLEGAL there.");
        check.promise(12, "A control register of a hart, as in S; 0: there is none such.");
        EnclaveHouse house = new EnclaveHouse(1);
        for (int number : new int[] {0xc01, 0xf14, 0, 0x101, 0x300, -1, 0x1100, Integer.MIN_VALUE}) {
            check.is("setControl " + number, -1, house.setControl(0, number, 1));
        }
        check.is("no hart", -1, house.setControl(2, 0x140, 1));
        check.is("no hart", -1, house.setControl(-1, 0x140, 1));
        check.is("no such number", 0, house.control(0, 0x101));
        check.is("no such hart", 0, house.control(2, 0xf14));
        check.is("no such hart", 0, house.control(-1, 0x14d));
        check.is("the hart's number", 1, house.control(1, 0xf14));
        house.run(3);
        check.is("TIME", 3, house.control(1, 0xc01));
    }

    private static void rounds() {
        check.promise(14, "So many ROUNDS, 0 .. 2,000: how many were done (that in which it goes OFF counts). NONE: "
            + "another number.");
        EnclaveHouse house = new EnclaveHouse(1);
        check.is("none", 0, house.run(0));
        check.is("below 0", -1, house.run(-1));
        check.is("too many", -1, house.run(2001));
        check.is("far too many", -1, house.run(Integer.MAX_VALUE));
        check.is("TIME stays", 0, house.count(0));
        check.is("the most", 2000, house.run(2000));
        check.is("TIME", 2000, house.count(0));
    }

    private static void line() {
        check.promise(17, "The LINE goes on or off: whether it was on.");
        EnclaveHouse house = new EnclaveHouse(1);
        check.is("it was off", false, house.line(true));
        check.is("it was on", true, house.line(true));
        check.is("both harts see it", 512, house.control(0, 0x144) & house.control(1, 0x144));
        check.is("it was on", true, house.line(false));
        check.is("nobody sees it", 0, house.control(0, 0x144) | house.control(1, 0x144));
    }

    private static void goingOff() {
        check.terms(1, 14, "When the machine is OFF nothing of this comes any more (a round in which it goes OFF "
            + "ends at once), and call() is BAD; all other calls are as ever.");
        Bench bench = new Bench(1);
        EnclaveHouse house = bench.house;
        bench.system(0x100, new Code().word(Code.NOTHING).call(18, 0, 0));
        house.poke(0x200, Code.NOTHING, Code.NOTHING, Code.NOTHING, Code.NOTHING, Code.NOTHING);
        house.poke(0x214, Code.NOTHING, Code.NOTHING, Code.NOTHING, Code.NOTHING, Code.NOTHING);
        house.place(1, 0x200, 1);
        check.is("rounds until it went off", 8, house.run(100));
        check.is("TIME", 7, house.count(0));
        check.is("it is off", 1, house.count(1));
        check.is("the answer", 0, house.register(0, 10));
        check.is("the PC goes on", 0x120, house.count(14));
        check.is("hart 1 had no step in that round", 0x21c, house.count(15));
        check.is("no rounds any more", 0, house.run(5));
        check.is("wrong rounds", -1, house.run(-5));
        check.is("no calls any more", -1, bench.call(15));
        check.is("other calls are as ever", 0, house.poke(0, 1, 2, 3, 4, 5));
        check.is("other calls are as ever", 0, house.type(5));
        house.boot(0);
        check.is("boot turns it on", 0, house.count(1));
        check.is("calls again", 0, bench.call(15));
    }

    private static void counts() {
        check.promise(28, "2 enclaves, 3 REGIONS, 4 THREADS, 5 EVENTS in all, 6 bytes of the CONSOLE, 7 DMAs that "
            + "wait, ");
        check.promise(28, "12 MODE of hart 0, 13 of hart 1, 14 the PC of hart 0, 15 of hart 1 (of the system), ");
        check.promise(28, "NONE: another what.");
        Bench bench = new Bench(1);
        EnclaveHouse house = bench.house;
        bench.call(1, 0x8000, 256);
        bench.call(1, 0x8100, 256);
        bench.call(3, 0, 0, 0);
        bench.call(3, 0, 0, 0);
        bench.call(3, 1, 0, 0);
        bench.call(9, 0, 0x9000, 256);
        bench.call(12, 1);
        bench.call(14, 0, 0, 0);
        house.type(3);
        int[][] due = {{2, 2}, {3, 3}, {4, 3}, {6, 1}, {7, 1}, {19, 1}, {20, -1}, {23, -1}, {-1, -1}, {99, -1}};
        for (int[] one : due) {
            check.is("count(" + one[0] + ")", one[1], house.count(one[0]));
        }
        house.place(0, 12, 0);
        house.place(1, 20, 1);
        check.is("modes and places", "0 1 12 20",
            house.count(12) + " " + house.count(13) + " " + house.count(14) + " " + house.count(15));
    }
}
