/** The document's Terms, section 7 DIGESTS. */
final class DigestEdges {
    private static final int MIN = Integer.MIN_VALUE;
    private static final int MAX = Integer.MAX_VALUE;
    private static final int BASE = 0x8000;
    private static final int DATA = BASE + 0x200;
    private static final int[] SEEDS = {0, 1, -1, MIN, MAX, 0x04030201};

    private final Edges edges;

    private DigestEdges(Edges itsEdges) {
        edges = itsEdges;
    }

    static void all(Edges edges) {
        DigestEdges of = new DigestEdges(edges);
        of.lengths();
        of.numbers();
        of.seedsAndVersions();
        of.measurementOfNothing();
        of.measurementInOrder();
        of.measurementOfPages();
        of.measurementOfRefusals();
        of.notOfWhere();
        of.report();
        of.key();
        of.random();
        of.log();
        of.logOfOthers();
        of.logByCode();
    }

    private static String measured(Bench bench, int enclave) {
        StringBuilder text = new StringBuilder();
        for (int q = 0; q < 8; q++) {
            text.append(String.format("%08x", bench.call(16, enclave, q)));
        }
        return text.toString();
    }

    /** The padding of SHA-256 begins a new block behind 55 bytes. */
    private void lengths() {
        edges.terms(7, 25, "7 DIGESTS. SHA-256 and HMAC (with blocks of 64 bytes) are as published.");
        byte[] all = new byte[0];
        for (int i = 0; i < 60; i++) {
            all = Bench.join(all, Bench.numbers(7919 * i, ~i, i << 24, i * i, -i));
        }
        int[] lengths = {0, 1, 2, 3, 4, 54, 55, 56, 57, 59, 60, 63, 64, 65, 119, 120, 127, 128, 1000};
        for (int n : lengths) {
            byte[] part = new byte[n];
            System.arraycopy(all, 1, part, 0, n);
            EnclaveHouse house = new EnclaveHouse(1);
            for (int i = 0; i < 60; i++) {
                house.poke(0x400 + 20 * i, 7919 * i, ~i, i << 24, i * i, -i);
            }
            for (int k = 0; k < 8; k++) {
                edges.is(n + " bytes, word " + k, Bench.word(Bench.sha(part), k), house.digest(0x401, n, k));
            }
        }
    }

    private void numbers() {
        edges.terms(7, 13, "A number in them is four bytes, the lowest first.");
        Bench bench = new Bench(1);
        bench.call(1, BASE, 512);
        bench.call(4, 0, 0);
        byte[] due = Bench.sha(new byte[] {1, 0, 0, 0, 0, 2, 0, 0, 4, 0, 0, 0, 0, 0, 0, 0});
        edges.is("CREATE of 512 bytes and FINALISE", Bench.hex(due), measured(bench, 0));
    }

    private void seedsAndVersions() {
        edges.terms(7, 1, "DEVICE: SHA-256 of the seed. ROOT: HMAC by DEVICE of the version.");
        for (int seed : SEEDS) {
            for (int version : SEEDS) {
                Bench bench = new Bench(seed);
                bench.house.boot(version);
                Agent agent = new Agent(bench, BASE);
                agent.ask(35, 5, DATA);
                byte[] root = Bench.mac(Bench.sha(Bench.numbers(seed)), Bench.numbers(version));
                byte[] due = Bench.mac(root, Bench.numbers(6), agent.measurement(0), Bench.numbers(5));
                edges.is("a KEY of seed " + seed + ", version " + version, Bench.hex(due),
                    Bench.hex(agent.bytes(0x200, 32)));
            }
        }
        Agent agent = new Agent(new Bench(3), BASE);
        agent.ask(35, 5, DATA);
        byte[] due = Bench.mac(Bench.root(3, 0), Bench.numbers(6), agent.measurement(0), Bench.numbers(5));
        edges.is("a new object has version 0", Bench.hex(due), Bench.hex(agent.bytes(0x200, 32)));
    }

    private void measurementOfNothing() {
        edges.terms(7, 13, "MEASUREMENT of an enclave: SHA-256 of what it was made by, in order: CREATE: 1, the "
            + "size; ");
        for (int size = 256; size <= 32768; size *= 2) {
            Bench bench = new Bench(1);
            bench.call(1, 32768, size);
            bench.call(4, 0, 1);
            edges.is("a size of " + size, Bench.hex(Bench.sha(Bench.numbers(1, size, 4, 1))), measured(bench, 0));
        }
    }

    private void measurementInOrder() {
        edges.terms(7, 13, "LOAD: 2, the page, its 256 bytes; THREAD: 3, the entry, the stack; FINALISE: 4, the "
            + "FLAGS.");
        Bench bench = new Bench(1);
        bench.house.poke(0x400, 0x04030201, -1, MIN, 3, 4);
        bench.house.poke(0x5ec, 5, 6, 7, 8, MAX);
        byte[] first = bench.innerBytes(0x400, 256);
        byte[] second = bench.innerBytes(0x500, 256);
        bench.call(1, BASE, 1024);
        bench.call(3, 0, 1020, 1024);
        bench.call(2, 0, 3, 0x400);
        bench.call(2, 0, 0, 0x500);
        bench.call(3, 0, 0, 0);
        bench.call(2, 0, 3, 0x500);
        bench.call(4, 0, 1);
        byte[] due = Bench.sha(Bench.numbers(1, 1024, 3, 1020, 1024, 2, 3), first, Bench.numbers(2, 0), second,
            Bench.numbers(3, 0, 0, 2, 3), second,
            Bench.numbers(4, 1));
        edges.is("in order, a page twice", Bench.hex(due), measured(bench, 0));
    }

    /** All pages of the largest enclave: 33,800 bytes and more. */
    private void measurementOfPages() {
        edges.terms(7, 13, "LOAD: 2, the page, its 256 bytes;");
        Bench bench = new Bench(1);
        bench.house.poke(0x400, 9, 8, 7, 6, 5);
        byte[] page = bench.innerBytes(0x400, 256);
        byte[] all = Bench.numbers(1, 32768);
        bench.call(1, 32768, 32768);
        for (int i = 0; i < 128; i++) {
            bench.call(2, 0, i, 0x400);
            all = Bench.join(all, Bench.numbers(2, i), page);
        }
        bench.call(4, 0, 0);
        edges.is("128 pages", Bench.hex(Bench.sha(all, Bench.numbers(4, 0))), measured(bench, 0));
        edges.is("the last one", 9, bench.house.inner(65536 - 256));
    }

    private void measurementOfRefusals() {
        edges.terms(7, 13, "SHA-256 of what it was made by, in order: ");
        Bench bench = new Bench(1);
        bench.call(1, BASE, 512);
        bench.call(1, 0x9000, 256);
        bench.call(2, 0, 2, 0x400);
        bench.call(3, 0, 2, 0);
        bench.call(4, 0, 2);
        bench.call(2, 1, 0, 0x400);
        bench.call(3, 1, 0, 0);
        bench.house.secret(0, 5, 77);
        for (int i = 0; i < 4; i++) {
            bench.call(3, 0, 0, 16);
        }
        bench.call(9, 0, 0xa000, 256);
        bench.call(4, 0, 0);
        byte[] due = Bench.sha(Bench.numbers(1, 512, 3, 0, 16, 3, 0, 16, 3, 0, 16, 4, 0));
        edges.is("what was refused, of another one, or a secret is not in it", Bench.hex(due), measured(bench, 0));
        bench.call(2, 0, 0, 0x400);
        bench.call(4, 0, 1);
        bench.call(7, 0);
        edges.is("nor what comes later", Bench.hex(due), measured(bench, 0));
        bench.call(8, 0);
        bench.call(1, BASE, 512);
        bench.call(4, 0, 0);
        edges.is("nor what the number before was made by", Bench.hex(Bench.sha(Bench.numbers(1, 512, 4, 0))),
            measured(bench, 0));
    }

    private void notOfWhere() {
        edges.terms(7, 13, "(Not of where it lies.)");
        Bench bench = new Bench(1);
        for (int i = 0; i < 2; i++) {
            bench.call(1, i == 0 ? 0x400 : 131072 - 1024, 1024);
            bench.call(2, i, 1, 0x2000);
            bench.call(3, i, 4, 16);
            bench.call(4, i, 0);
        }
        edges.is("two places", measured(bench, 0), measured(bench, 1));
        Bench other = new Bench(99);
        other.house.boot(5);
        other.call(1, 0x8000, 1024);
        other.call(2, 0, 1, 0x3000);
        other.call(3, 0, 4, 16);
        other.call(4, 0, 0);
        edges.is("nor of which machine", measured(bench, 0), measured(other, 0));
    }

    private void report() {
        edges.terms(7, 14, "REPORT: the MEASUREMENT, the RECORD, the data, and HMAC by ROOT of 5 and these 96 bytes.");
        for (int seed : new int[] {0, -1, MIN}) {
            Bench bench = new Bench(seed);
            bench.house.boot(seed + 1);
            Agent agent = new Agent(bench, BASE, 3, 1);
            agent.keep(0x300, -1, 2, MIN, 4, MAX, 6, 7, 0x01020304);
            agent.ask(49, BASE + 0x300);
            agent.ask(34, BASE + 0x300, DATA);
            byte[] data = agent.bytes(0x300, 32);
            byte[] body = Bench.join(agent.measurement(1), Bench.sha(new byte[32], data), data);
            edges.is("its 128 bytes", Bench.hex(Bench.join(body, Bench.mac(Bench.root(seed, seed + 1),
                Bench.numbers(5), body))),
                Bench.hex(agent.bytes(0x200, 128)));
        }
    }

    private void key() {
        edges.terms(7, 14, "KEY for a label: HMAC by ROOT of 6, the MEASUREMENT, the label.");
        Bench bench = new Bench(1);
        Agent agent = new Agent(bench, BASE, 1, 0);
        Agent same = new Agent(bench, 0x9000, 1, 0);
        agent.ask(35, -7, DATA);
        same.ask(35, -7, 0x9200);
        byte[] due = Bench.mac(Bench.root(1, 0), Bench.numbers(6), agent.measurement(0), Bench.numbers(-7));
        edges.are("two of one MEASUREMENT", Bench.hex(due) + " " + Bench.hex(due), Bench.hex(agent.bytes(0x200, 32)),
            Bench.hex(same.bytes(0x200, 32)));
        agent.ask(49, BASE + 0x300);
        agent.ask(35, -7, DATA);
        edges.is("the RECORD does not count", Bench.hex(due), Bench.hex(agent.bytes(0x200, 32)));
    }

    private void random() {
        edges.terms(7, 14, "RANDOM: the first so many bytes of HMAC by ROOT of 7, the MEASUREMENT, the GENERATION, "
            + "and how often this enclave asked so before.");
        Bench bench = new Bench(1);
        for (int generation = 1; generation < 3; generation++) {
            Agent agent = new Agent(bench, BASE);
            byte[] measurement = agent.measurement(0);
            for (int asked = 0; asked < 3; asked++) {
                agent.ask(36, DATA, 0);
                agent.ask(36, DATA, 32 - asked);
                byte[] due = Bench.mac(Bench.root(1, 0), Bench.numbers(7), measurement,
                    Bench.numbers(generation, asked));
                int n = 32 - asked;
                edges.is("GENERATION " + generation + ", asked " + asked, Bench.hex(due).substring(0, 2 * n),
                    Bench.hex(agent.bytes(0x200, n)));
                edges.is("how often it asked", asked + 1, bench.house.enclave(0, 7));
            }
            bench.call(7, 0);
            bench.call(8, 0);
        }
    }

    /** The RESUME of ask() comes into the LOG that it tells. */
    private void logIs(String what, Agent agent) {
        agent.ask(50, DATA);
        edges.is(what, Bench.hex(agent.bench.log), Bench.hex(agent.bytes(0x200, 32)));
    }

    private void log() {
        edges.terms(7, 13, "The LOG (32 bytes 0 at first) becomes, with each CALL 1 to 11, 19, 20 of the system that "
            + "is not refused, SHA-256 of itself, x17, p, q, r, s (from outside, too).");
        Bench bench = new Bench(1);
        bench.call(3, 0, 0, 0);
        Agent agent = new Agent(bench, BASE);
        // What a CALL does not use counts as well; ask() RESUMES, so that CALL 6 is among these.
        int[][] given = {{1, 0x9000, 256, -1, MIN}, {2, 1, 0, 0x400, 5}, {3, 1, 0, 0, MAX}, {9, 1, 0xa000, 256, 6},
            {10, 0, 1, 0xb000, 256}, {11, 3, 7, 8, 9},
            {19, 100000, 1, 2, 3}, {19, 0, 0, 0, 0}, {20, 0, 0xc000, 256, 4}, {4, 1, 1, 2, 3}, {5, 1, 2, 3, 4}};
        for (int[] one : given) {
            int answer = bench.call(one[0], one[1], one[2], one[3], one[4]);
            edges.is("CALL " + one[0] + " is not refused", true, answer >= 0);
            if (one[0] == 5) {
                bench.house.run(1);
            }
            logIs("behind CALL " + one[0], agent);
        }
        for (int[] one : new int[][] {{7, 1, 2, 3, 4}, {8, 1, 2, 3, 4}}) {
            edges.is("CALL " + one[0], 0, bench.call(one[0], one[1], one[2], one[3], one[4]));
            logIs("behind CALL " + one[0], agent);
        }
    }

    private void logOfOthers() {
        edges.terms(7, 13, "with each CALL 1 to 11, 19, 20 of the system that is not refused, ");
        Bench bench = new Bench(1);
        Agent agent = new Agent(bench, BASE);
        bench.house.type(5);
        int[][] refused = {{1, BASE, 256}, {1, 0, 1}, {2, 0, 0, 0}, {3, 0, 0, 0}, {4, 0, 0}, {5, 0, 0}, {7, 5}, {8, 0},
            {9, 0, BASE, 256}, {10, 0, 0, 0, 256},
            {11, 0}, {19, -1}, {20, 0, BASE, 256}, {0}, {22}, {32}};
        for (int[] one : refused) {
            edges.is("CALL " + one[0] + " is refused", true, bench.house.call(0, one[0], one[1 % one.length],
                one[2 % one.length], 0, 0) < 0);
        }
        logIs("what is refused does not count", agent);
        int[][] others = {{12, 65}, {13, 0}, {14, 0, 0, 0x400}, {15}, {16, 0, 0}, {17, 0, 0}, {21}};
        for (int[] one : others) {
            int[] given = new int[one.length - 1];
            System.arraycopy(one, 1, given, 0, given.length);
            bench.call(one[0], given);
        }
        bench.house.setControl(0, 0x144, 0);
        agent.ask(42);
        logIs("nor 12 to 18 and 21, nor those of THREADS", agent);
        bench.house.call(1, 19, 3, 0, 0, 0);
        bench.log = Bench.sha(bench.log, Bench.numbers(19, 3, 0, 0, 0));
        logIs("on hart 1 as well", agent);
    }

    private void logByCode() {
        edges.terms(7, 14, "of itself, x17, p, q, r, s (from outside, too).");
        Bench bench = new Bench(1);
        Agent agent = new Agent(bench, BASE);
        bench.system(0x600, new Code().word(Code.CALL));
        int[] given = {0x9000, 512, -3, MIN};
        for (int i = 0; i < 4; i++) {
            bench.house.setRegister(0, 10 + i, given[i]);
        }
        bench.house.setRegister(0, 17, 1);
        bench.house.run(1);
        edges.are("CREATE by an instruction", "1 1", bench.house.register(0, 10), bench.house.enclave(1, 0));
        bench.log = Bench.sha(bench.log, Bench.numbers(1, 0x9000, 512, -3, MIN));
        logIs("the LOG", agent);
        bench.house.boot(0);
        bench.log = new byte[32];
        logIs("behind boot it begins again", new Agent(bench, BASE));
    }
}
