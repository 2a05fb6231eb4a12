import java.util.Random;

/** No call throws or fails to end, whatever it is given and in whatever state the machine is. */
public final class NeverThrowsTest {
    private static final int[] EDGES = {
        0, 1, 2, 3, 4, 5, 6, 7, 8, 11, 12, 15, 16, 31, 32, 33, 63, 64, 128, 255, 256, 257, 512, 1000, 1024, 2000, 2001,
        0x100, 0x104, 0x144, 0x180, 0xc01, 0xf14, 4096, 4097, 0x8000, 32768, 131068, 131071, 131072, -1, -2, -4, -256,
        Integer.MIN_VALUE, Integer.MIN_VALUE + 4, Integer.MAX_VALUE, Integer.MAX_VALUE - 3
    };

    private static final int MOST_CALLS = 512;
    /** The most that any() makes at once. */
    private static final int CALLS_AT_ONCE = 19;

    private final Random random;
    private final EnclaveHouse house;
    private int calls;

    private NeverThrowsTest(long seed) {
        random = new Random(seed);
        house = new EnclaveHouse(random.nextInt());
    }

    public static void main(String[] args) {
        Check check = new Check("NeverThrowsTest");
        check.look(args);
        check.whatItIs("An object is used for at most 512 calls after it has been made;");
        for (int seed = 0; seed < 400; seed++) {
            check.is("run " + seed, "fine", ended(seed));
        }
        check.end();
    }

    private static String ended(int seed) {
        try {
            NeverThrowsTest test = new NeverThrowsTest(seed);
            while (test.calls <= MOST_CALLS - CALLS_AT_ONCE) {
                test.any();
            }
            return "fine";
        } catch (RuntimeException e) {
            return e.toString();
        }
    }

    private int number() {
        int kind = random.nextInt(8);
        if (kind == 0) {
            return random.nextInt();
        }
        if (kind < 6) {
            return kind < 4 ? random.nextInt(14) : random.nextInt(512) * 256;
        }
        return EDGES[random.nextInt(EDGES.length)];
    }

    /** A word that often is an instruction, with registers that hold places. */
    private int word() {
        int[] ops = {3, 35, 19, 51, 47, 99, 103, 111, 115, 55, 23, 15};
        int kind = random.nextInt(10);
        if (kind < 3) {
            return Code.CALL;
        }
        if (kind < 4) {
            return Code.byNumber(19, 17, 0, 0, random.nextInt(53));
        }
        if (kind < 5) {
            return Code.byNumber(19, 10 + random.nextInt(4), 0, random.nextInt(14), random.nextInt(512));
        }
        return random.nextInt() & ~127 | ops[random.nextInt(ops.length)];
    }

    private static int callsOf(int kind) {
        switch (kind) {
            case 20: return CALLS_AT_ONCE;
            case 21: return 3;
            case 4: case 10: case 12: case 13: case 14: case 16: return 2;
            default: return 1;
        }
    }

    private void any() {
        int kind = random.nextInt(30);
        calls += callsOf(kind);
        switch (kind) {
            case 0: house.word(number()); break;
            case 1: house.inner(number()); break;
            case 2: house.secret(number(), number(), number()); break;
            case 3: house.setRegister(number(), number(), number()); break;
            case 4: house.register(number(), number()); house.inside(number(), number()); break;
            case 5: house.place(number(), number(), number()); break;
            case 6: house.setControl(number(), number(), number()); break;
            case 7: house.control(number(), number()); break;
            case 8: house.run(number()); break;
            case 9: house.run(random.nextInt(40)); break;
            case 10: house.type(number()); house.panel(number()); break;
            case 11: house.line(random.nextInt(4) == 0); break;
            case 12: house.enclave(number(), number()); house.thread(number(), number()); break;
            case 13: house.region(number(), number()); house.entry(number(), number(), number()); break;
            case 14: house.event(number(), number()); house.console(number()); break;
            case 15: house.disk(number(), number(), number()); break;
            case 16: house.digest(number(), number(), number()); house.genuine(number()); break;
            case 17: if (random.nextInt(8) == 0) house.outside(); break;
            case 18: house.count(number()); break;
            case 19: if (random.nextInt(20) == 0) house.boot(number()); break;
            case 20: enclaveOfAnything(); break;
            case 21: place(random.nextInt(2)); break;
            case 22: house.setRegister(random.nextInt(2), random.nextInt(32), number()); break;
            case 23: house.poke(number(), word(), word(), word(), word(), word()); break;
            default: house.call(random.nextInt(2), callNumber(), number(), number(), number(), number()); break;
        }
    }

    private int callNumber() {
        int f = random.nextInt(23);
        return f == 18 && random.nextInt(10) != 0 ? number() : f;
    }

    private void place(int hart) {
        int at = 4 * random.nextInt(512);
        house.poke(at, word(), word(), word(), word(), word());
        house.poke(at + 20, word(), word(), word(), word(), word());
        house.place(hart, at, random.nextInt(2));
    }

    private void enclaveOfAnything() {
        for (int i = 0; i < 12; i++) {
            house.poke(0x1000 + 20 * i, word(), word(), word(), word(), word());
        }
        int enclave = house.call(0, 1, 0x8000 + 0x400 * random.nextInt(16), 256 << random.nextInt(3), 0, 0);
        house.call(0, 2, enclave, 0, 0x1000, 0);
        int thread = house.call(0, 3, enclave, 0, 256, 0);
        house.call(0, 9, enclave, 0x14000 + 0x100 * random.nextInt(16), 256, 0);
        house.call(0, 4, enclave, random.nextInt(2), 0, 0);
        house.call(0, 5, thread, number(), number(), 0);
        house.run(random.nextInt(60));
    }
}
