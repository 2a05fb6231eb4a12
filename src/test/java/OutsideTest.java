/** Promise 27: OUTSIDE reckoned again from what the other calls show, and what does not come into it. */
public final class OutsideTest {
    private static final int[] CONTROLS = {0x100, 0x104, 0x105, 0x140, 0x141, 0x142, 0x143};
    private static final Check check = new Check("OutsideTest");

    private long x;

    public static void main(String[] args) {
        check.look(args);
        atFirst();
        inTheMidst();
        secretsDoNotShow();
        twoMachinesWithOtherSecrets();
        check.end();
    }

    private void put(int v) {
        x = x * 6364136223846793005L + v + 1;
    }

    /**
     * SLICE and the keys that wait cannot be seen from outside, so the test tells them. It asks far more than 512
     * times; this class answers later calls as it answers the first ones.
     */
    private static long reckoned(EnclaveHouse house, int[] slices, int[] keys) {
        OutsideTest of = new OutsideTest();
        of.x = 1;
        for (int place = 0; place < 131072; place += 4) {
            of.put(house.word(place));
        }
        for (int hart = 0; hart < 2; hart++) {
            of.putHart(house, hart, slices[hart]);
        }
        of.put(house.count(0));
        of.putTables(house);
        of.put(house.count(6));
        for (int i = 0; i < house.count(6); i++) {
            of.put(house.console(i));
        }
        for (int i = 0; i < 8192; i += 4) {
            int word = 0;
            for (int k = 3; k >= 0; k--) {
                word = word << 8 | house.disk(i >> 8, (i & 255) + k, -1);
            }
            of.put(word);
        }
        of.put(house.count(7));
        of.put(house.count(17));
        of.put(house.count(18));
        of.put(house.count(20));
        of.put(keys.length);
        for (int key : keys) {
            of.put(key);
        }
        of.put(house.count(1));
        return of.x;
    }

    private void putHart(EnclaveHouse house, int hart, int slice) {
        for (int n = 1; n < 32; n++) {
            put(house.register(hart, n));
        }
        put(house.count(14 + hart));
        put(house.count(12 + hart));
        put(house.count(10 + hart));
        put(house.count(8 + hart));
        for (int control : CONTROLS) {
            put(house.control(hart, control));
        }
        put(house.control(hart, 0x144) >> 1 & 1);
        put(house.control(hart, 0x14d));
        put(house.control(hart, 0x180));
        put(slice);
    }

    private void putTables(EnclaveHouse house) {
        for (int i = 0; i < 12; i++) {
            put(house.region(i, 0));
            if (house.region(i, 0) != 0) {
                put(house.region(i, 1));
                put(house.region(i, 2));
            }
        }
        for (int i = 0; i < 6; i++) {
            put(house.enclave(i, 0));
            put(house.enclave(i, 5));
        }
        for (int i = 0; i < 12; i++) {
            put(house.thread(i, 0));
        }
    }

    private static void atFirst() {
        check.promise(27, "OUTSIDE.");
        check.terms(9, 27, "9 OUTSIDE is a number of what lies open to the system: x is 1; for each number v in "
            + "this order (with its sign) x becomes x * 6364136223846793005 + v + 1 (64 bits):");
        EnclaveHouse house = new EnclaveHouse(1);
        check.is("at first", reckoned(house, new int[2], new int[0]), house.outside());
        check.is("of another seed", house.outside(), new EnclaveHouse(2).outside());
    }

    private static void inTheMidst() {
        check.terms(9, 27, "all WORDS of MEMORY by places, those that are not OPEN as 0; for each hart x1 to x31, "
            + "PC, MODE, 1 if it WAITS else 0, the THREAD that runs there (or -1), STATUS, ENABLED, TVEC, "
            + "SCRATCH, EPC, CAUSE, TVAL, bit 1 of PENDING (1 or 0), COMPARE, ATP, SLICE; TIME; for each REGION 0 "
            + ".. 11 its SORT (0: none, and nothing more of it), base, size; for each enclave its state (0: none) "
            + "and GENERATION; for each THREAD its state (0: none); how many bytes the CONSOLE has, and these; "
            + "all words of THE DISK; how many DMAs wait, were done and not told, FAILED of these; the enclave "
            + "that has the PATH (or -1); how many keys wait for the system, and these; 1 if the machine is OFF, "
            + "else 0.");
        Bench bench = new Bench(1);
        EnclaveHouse house = bench.house;
        house.poke(0x3000, -1, -2, Integer.MIN_VALUE, Integer.MAX_VALUE, 5);
        for (int n = 1; n < 32; n++) {
            house.setRegister(0, n, 1000 * n);
            house.setRegister(1, n, -1000 * n);
        }
        for (int control : CONTROLS) {
            house.setControl(0, control, 0x7fffffff - control);
        }
        house.setControl(1, 0x104, 0);
        house.setControl(1, 0x144, 2);
        house.setControl(1, 0x14d, 12345);
        house.setControl(1, 0x180, 7);
        bench.call(12, 65);
        bench.call(12, 200);
        house.disk(0, 1, 0x81);
        house.disk(31, 255, 0xff);
        int thread = bench.enclave(0x8000, 256, 0, new Code().call(45, 0, 0).word(Code.jumping(0, 0)));
        bench.call(1, 0x9000, 512);
        bench.call(9, 0, 0xa000, 256);
        bench.call(10, 0, 1, 0xb000, 256);
        bench.call(8, 1);
        bench.call(19, 100000);
        house.call(1, 19, 5, 0, 0, 0);
        bench.call(14, 0, 0, 0x8000);
        bench.call(14, 0, 0, 0x4000);
        house.type(11);
        house.type(12);
        bench.call(21);
        house.setControl(0, 0x104, 0);
        bench.call(5, thread, 0, 0);
        check.is("in the midst", reckoned(house, new int[] {100000, 5}, new int[] {12}), house.outside());
        house.run(5);
        house.poke(0x500, Code.WAIT, 0, 0, 0, 0);
        house.place(1, 0x500, 1);
        house.setControl(1, 0x180, 0);
        house.setControl(1, 0x144, 0);
        house.run(4);
        check.is("hart 1 waits", 1, house.count(11));
        check.is("failed", 1, house.count(18));
        check.is("a while later", reckoned(house, new int[] {100000, 5}, new int[] {12}), house.outside());
        house.call(1, 18, 0, 0, 0, 0);
        check.is("the machine is off", 1, house.count(1));
        check.is("the path has an owner", 0, house.count(20));
        check.is("when it is off", reckoned(house, new int[] {100000, 5}, new int[] {12}), house.outside());
    }

    private static void secretsDoNotShow() {
        check.terms(9, 27, "those that are not OPEN as 0;");
        Bench bench = new Bench(1);
        int thread = bench.enclave(0x8000, 256, 0, new Code().set(8, 5).word(Code.jumping(0, 0)));
        bench.call(5, thread, 1, 2);
        bench.house.run(3);
        long before = bench.house.outside();
        bench.house.secret(0, 200, 77);
        check.is("a secret", before, bench.house.outside());
        bench.house.line(true);
        check.is("the line", before, bench.house.outside());
        bench.house.type(3);
        check.is("a key shows", false, before == bench.house.outside());
    }

    /** What an enclave reckons with its secret does not come out, as long as it tells nothing. */
    private static void twoMachinesWithOtherSecrets() {
        check.terms(9, 27, "OUTSIDE is a number of what lies open to the system:");
        long[] seen = new long[2];
        for (int i = 0; i < 2; i++) {
            Bench bench = new Bench(1);
            Code code = new Code().set(5, 0x80f0).load(2, 6, 5, 0).word(Code.byRegister(51, 7, 0, 6, 6, 1))
                .store(2, 5, 7, 4).exit(0);
            int thread = bench.enclave(0x8000, 256, 0, code);
            bench.house.secret(0, 0xf0, 10 + i);
            bench.enter(thread, 0, 0);
            check.is("it reckoned", (10 + i) * (10 + i), bench.house.inner(0x80f4));
            seen[i] = bench.house.outside();
        }
        check.is("the same from outside", seen[0], seen[1]);
    }
}
