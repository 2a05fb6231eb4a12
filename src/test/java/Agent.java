/**
 * An enclave of 1,024 bytes whose one THREAD does the CALLS that a test tells it. It is told them in a SHARED REGION,
 * which it only reads, so that its CALLS make no EVENTS but their own and a YIELD each.
 */
final class Agent {
    static final int SIZE = 1024;
    private static final int STAGE = 0x1c00;
    private static final int BOXES = 0x1e000;
    private static final int STEPS_TO_BEGIN = 8;
    private static final int STEPS_OF_A_CALL = 10;

    final Bench bench;
    final int base;
    final int enclave;
    final int thread;
    private final int box;

    /** Agents of the same mark and FLAGS have the same MEASUREMENT. */
    Agent(Bench itsBench, int itsBase, int mark, int flags) {
        bench = itsBench;
        base = itsBase;
        enclave = bench.call(1, base, SIZE);
        code(mark).poke(bench.house, STAGE);
        bench.call(2, enclave, 0, STAGE);
        thread = bench.call(3, enclave, 0, SIZE);
        bench.call(4, enclave, flags);
        box = BOXES + 256 * enclave;
        bench.call(5, thread, bench.call(9, enclave, box, 256), box);
        bench.house.run(STEPS_TO_BEGIN);
        waitsForWork();
    }

    Agent(Bench itsBench, int itsBase) {
        this(itsBench, itsBase, 0, 0);
    }

    private static Code code(int mark) {
        return new Code().word(Code.byNumber(19, 0, 0, 0, mark)).word(Code.byNumber(19, 5, 0, 11, 0))
            .set(17, 38).word(Code.CALL)
            .set(17, 33).word(Code.CALL)
            .load(2, 17, 5, 0).load(2, 10, 5, 4).load(2, 11, 5, 8).load(2, 12, 5, 12).load(2, 13, 5, 16)
            .word(Code.CALL).word(Code.jumping(0, -36));
    }

    /** What it was made by, for a MEASUREMENT; the page is that which was loaded last from the stage. */
    byte[] measurement(int flags) {
        byte[] page = bench.innerBytes(STAGE, 256);
        return Bench.sha(Bench.numbers(1, SIZE), Bench.numbers(2, 0), page, Bench.numbers(3, 0, SIZE),
            Bench.numbers(4, flags));
    }

    private void waitsForWork() {
        if (bench.house.thread(thread, 0) != 4) {
            throw new IllegalStateException("the agent did not yield");
        }
    }

    /** The answer of a CALL of its THREAD, on hart 0. */
    int ask(int f, int... given) {
        int[] four = new int[4];
        System.arraycopy(given, 0, four, 0, given.length);
        bench.house.poke(box, f, four[0], four[1], four[2], four[3]);
        bench.call(6, thread, 0);
        bench.house.run(STEPS_OF_A_CALL);
        waitsForWork();
        return bench.house.register(0, 11);
    }

    byte[] bytes(int offset, int n) {
        return bench.innerBytes(base + offset, n);
    }

    /** Words come to its memory by secret(), four calls each. */
    void keep(int offset, int... words) {
        for (int i = 0; i < 4 * words.length; i++) {
            bench.house.secret(enclave, offset + i, words[i / 4] >>> 8 * (i & 3) & 255);
        }
    }
}
