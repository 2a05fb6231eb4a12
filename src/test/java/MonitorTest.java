import java.util.Arrays;

/** Promises 13, 14, 25 and 26: measurements, reports, keys, records, mail, counters and the chain. */
public final class MonitorTest {
    private static final int SEED = 77;
    private static final int BASE = 0x8000;
    private static final int DATA = BASE + 0x300;
    private static final Check check = new Check("MonitorTest");

    public static void main(String[] args) {
        check.look(args);
        digests();
        measurement();
        reports();
        reportsOfOthers();
        reportsOverTheEdge();
        keys();
        randoms();
        selfAndLog();
        records();
        mail();
        mailRefusals();
        nothingIsLeftOfAnEnclave();
        counters();
        countersAreFull();
        countersOutliveBoot();
        reach();
        overlappingReport();
        writesToShared();
        check.end();
    }

    /** The 32 bytes that MEASURE tells. */
    private static byte[] measured(Bench bench, int enclave) {
        byte[] bytes = new byte[32];
        for (int k = 0; k < 8; k++) {
            int word = bench.call(16, enclave, k);
            for (int i = 0; i < 4; i++) {
                bytes[4 * k + i] = (byte) (word >>> 24 - 8 * i);
            }
        }
        return bytes;
    }

    private static void same(String what, byte[] due, byte[] got) {
        check.is(what, Bench.hex(due), Bench.hex(got));
    }

    private static void digests() {
        check.promise(25, "Word k (0 .. 7, its highest byte being the earliest) of SHA-256 of n bytes (0 .. 4,096) "
            + "from a place on (0 .. 131,072 less n), as word() shows them. 0: another place, n, k.");
        EnclaveHouse house = new EnclaveHouse(1);
        byte[] all = new byte[0];
        for (int i = 0; i < 20; i++) {
            house.poke(0x2000 + 20 * i, 1 + i, -7 * i, 0x1234567 * i, ~i, 99);
            all = Bench.join(all, Bench.numbers(1 + i, -7 * i, 0x1234567 * i, ~i, 99));
        }
        Bench bench = new Bench(1);
        for (int n : new int[] {0, 1, 3, 54, 55, 56, 57, 63, 64, 65, 119, 120, 128, 4096}) {
            for (int from : new int[] {0x2000, 0x2001, 0x2003}) {
                byte[] bytes = new byte[n];
                for (int i = 0; i < n && from - 0x2000 + i < all.length; i++) {
                    bytes[i] = all[from - 0x2000 + i];
                }
                byte[] due = Bench.sha(bytes);
                check.is("digest of " + n, Bench.word(due, n % 8), house.digest(from, n, n % 8));
            }
        }
        int[][] bad = {
            {-1, 4, 0}, {131072, 1, 0}, {131073, 0, 0}, {0, -1, 0}, {0, 4097, 0}, {0, 4, 8}, {0, 4, -1},
            {Integer.MAX_VALUE, 4096, 0}, {131072 - 4095, 4096, 0}
        };
        for (int[] one : bad) {
            check.is("no digest", 0, house.digest(one[0], one[1], one[2]));
        }
        check.is("from 0 on", Bench.word(Bench.sha(new byte[9]), 2), house.digest(0, 9, 2));
        check.is("of nothing, at the end", Bench.word(Bench.sha(), 0), house.digest(131072, 0, 0));
        bench.enclave(BASE, 256, 0, new Code().exit(1));
        check.is("an enclave shows as 0", Bench.word(Bench.sha(new byte[256]), 1), bench.house.digest(BASE, 256, 1));
    }

    private static void measurement() {
        check.terms(7, 13, "MEASUREMENT of an enclave: SHA-256 of what it was made by, in order: CREATE: 1, the "
            + "size; LOAD: 2, the page, its 256 bytes; THREAD: 3, the entry, the stack; FINALISE: 4, the FLAGS. "
            + "(Not of where it lies.)");
        byte[] whole = new byte[0];
        for (int base : new int[] {0x8000, 0x10000}) {
            Bench bench = new Bench(base);
            bench.house.poke(0x1000, 1, 2, 3, 4, 5);
            bench.call(1, base, 512);
            bench.call(2, 0, 1, 0x1000);
            bench.call(2, 0, 5, 0x1000);
            bench.call(3, 0, 4, 32);
            bench.call(2, 0, 0, 0x1010);
            bench.call(9, 0, 0x4000, 256);
            bench.call(4, 0, 1);
            byte[] first = Bench.join(Bench.numbers(1, 2, 3, 4, 5), new byte[236]);
            byte[] second = Bench.join(Bench.numbers(5), new byte[252]);
            whole = Bench.sha(Bench.numbers(1, 512), Bench.numbers(2, 1), first, Bench.numbers(3, 4, 32),
                Bench.numbers(2, 0), second, Bench.numbers(4, 1));
            same("the measurement", whole, measured(bench, 0));
        }
        Bench bench = new Bench(1);
        bench.call(1, 0x8000, 512);
        bench.call(4, 0, 0);
        same("the shortest", Bench.sha(Bench.numbers(1, 512, 4, 0)), measured(bench, 0));
        bench.call(7, 0);
        same("when STOPPED", Bench.sha(Bench.numbers(1, 512, 4, 0)), measured(bench, 0));
    }

    private static byte[] report(byte[] root, byte[] measurement, byte[] record, byte[] data) {
        byte[] body = Bench.join(measurement, record, data);
        return Bench.join(body, Bench.mac(root, Bench.numbers(5), body));
    }

    private static void reports() {
        check.terms(7, 14, "REPORT: the MEASUREMENT, the RECORD, the data, and HMAC by ROOT of 5 and these 96 bytes.");
        check.promise(26, "Whether 128 bytes from a place on, as word() shows them, are a REPORT of this machine's "
            + "as it is now.");
        Bench bench = new Bench(SEED);
        bench.house.boot(3);
        Code code = new Code().call(38, 1, 0).callTo(20, 34, DATA, 0xa001).callTo(21, 37, 0xa001, 0)
            .callTo(22, 37, 0xa000, 0).exit(0);
        int thread = bench.enclave(BASE, 1024, 0, code);
        bench.call(9, 0, 0xa000, 256);
        bench.house.secret(0, 0x300, 8);
        bench.house.secret(0, 0x31f, 9);
        bench.enter(thread, 0, 0);
        check.is("ATTEST", 0, bench.house.inside(thread, 20));
        check.is("VERIFY", 1, bench.house.inside(thread, 21));
        check.is("VERIFY elsewhere", 0, bench.house.inside(thread, 22));
        byte[] data = new byte[32];
        data[0] = 8;
        data[31] = 9;
        byte[] due = report(Bench.root(SEED, 3), measured(bench, 0), new byte[32], data);
        same("the report", due, bench.innerBytes(0xa001, 128));
        check.is("genuine", true, bench.house.genuine(0xa001));
        check.is("genuine beside it", false, bench.house.genuine(0xa000));
        check.is("genuine below 0", false, bench.house.genuine(-1));
        check.is("genuine at the end", false, bench.house.genuine(131072 - 127));
        for (int at = 0xa004; at <= 0xa080; at += 12) {
            flip(bench.house, at);
            check.is("one bit is another", false, bench.house.genuine(0xa001));
            flip(bench.house, at);
        }
        check.is("as it was", true, bench.house.genuine(0xa001));
    }

    private static void flip(EnclaveHouse house, int at) {
        house.poke(at, house.word(at) ^ 1, house.word(at + 4), house.word(at + 8), house.word(at + 12),
            house.word(at + 16));
    }

    private static void reportsOfOthers() {
        check.promise(26, "are a REPORT of this machine's as it is now.");
        check.terms(7, 26, "DEVICE: SHA-256 of the seed. ROOT: HMAC by DEVICE of the version.");
        byte[] body = new byte[96];
        Arrays.fill(body, (byte) 0x5a);
        int[] versions = {0, 1, -1};
        for (int version : versions) {
            byte[] made = Bench.join(body, Bench.mac(Bench.root(SEED, version), Bench.numbers(5), body));
            EnclaveHouse house = new EnclaveHouse(SEED);
            for (int now : versions) {
                house.boot(now);
                pokeBytes(house, 131072 - 140, Bench.join(new byte[12], made));
                pokeBytes(house, 0, Bench.join(made, new byte[12]));
                check.is("at place 0", version == now, house.genuine(0));
                check.is("made by " + version + ", now " + now, version == now, house.genuine(131072 - 128));
            }
            EnclaveHouse other = new EnclaveHouse(SEED + 1);
            other.boot(version);
            pokeBytes(other, 0, Bench.join(made, new byte[12]));
            check.is("another machine's", false, other.genuine(0));
        }
    }

    /** Of a REPORT whose first and last bytes are 0 the rest is none, though nothing follows it in memory. */
    private static void reportsOverTheEdge() {
        check.promise(26, "Whether 128 bytes from a place on, as word() shows them,");
        byte[] body = new byte[96];
        byte[] seal = Bench.mac(Bench.root(SEED, 0), Bench.numbers(5), body);
        for (int i = 1; i < 100000 && seal[31] != 0; i++) {
            body[1] = (byte) i;
            body[2] = (byte) (i >> 8);
            seal = Bench.mac(Bench.root(SEED, 0), Bench.numbers(5), body);
        }
        byte[] made = Bench.join(body, seal);
        EnclaveHouse house = new EnclaveHouse(SEED);
        pokeBytes(house, 131072 - 140, Bench.join(new byte[13], Arrays.copyOf(made, 127)));
        pokeBytes(house, 0, Bench.join(Arrays.copyOfRange(made, 1, 128), new byte[13]));
        check.is("its last byte would be behind memory", false, house.genuine(131072 - 127));
        check.is("its first byte would be ahead of memory", false, house.genuine(-1));
        pokeBytes(house, 0x1000, Bench.join(made, new byte[12]));
        check.is("all of it", true, house.genuine(0x1000));
    }

    /** Pokes a multiple of 20 bytes. */
    private static void pokeBytes(EnclaveHouse house, int place, byte[] bytes) {
        for (int i = 0; i < bytes.length; i += 20) {
            int[] five = new int[5];
            for (int k = 0; k < 20; k++) {
                five[k / 4] |= (bytes[i + k] & 255) << 8 * (k & 3);
            }
            house.poke(place + i, five[0], five[1], five[2], five[3], five[4]);
        }
    }

    private static void keys() {
        check.terms(7, 14, "KEY for a label: HMAC by ROOT of 6, the MEASUREMENT, the label.");
        Bench bench = new Bench(SEED);
        bench.house.boot(2);
        Code code = new Code().callTo(20, 35, -9, DATA).callTo(21, 35, 10, DATA + 33).exit(0);
        int thread = bench.enclave(BASE, 1024, 0, code);
        bench.enter(thread, 0, 0);
        byte[] root = Bench.root(SEED, 2);
        same("a key", Bench.mac(root, Bench.numbers(6), measured(bench, 0), Bench.numbers(-9)),
            bench.innerBytes(DATA, 32));
        same("another key", Bench.mac(root, Bench.numbers(6), measured(bench, 0), Bench.numbers(10)),
            bench.innerBytes(DATA + 33, 32));
        check.is("answers", 0, bench.house.inside(thread, 20) | bench.house.inside(thread, 21));
    }

    private static void randoms() {
        check.terms(7, 14, "RANDOM: the first so many bytes of HMAC by ROOT of 7, the MEASUREMENT, the GENERATION, "
            + "and how often this enclave asked so before.");
        check.terms(6, 14, "36 RANDOM: q (1 .. 32) bytes are written at p. 0.");
        Bench bench = new Bench(SEED);
        bench.call(1, 0x4000, 256);
        bench.call(8, 0);
        Code code = new Code().callTo(20, 36, DATA, 32).callTo(21, 36, DATA + 33, 5).callTo(22, 36, DATA, 0)
            .callTo(23, 36, DATA, 33).callTo(24, 36, DATA, -1).callTo(25, 36, BASE + 1024 - 1, 1)
            .callTo(26, 36, BASE + 1024 - 1, 2).exit(0);
        int thread = bench.enclave(BASE, 1024, 0, code);
        bench.enter(thread, 0, 0);
        byte[] root = Bench.root(SEED, 0);
        byte[][] due = new byte[3][];
        for (int i = 0; i < 3; i++) {
            due[i] = Bench.mac(root, Bench.numbers(7), measured(bench, 0), Bench.numbers(2, i));
        }
        same("random bytes", due[0], bench.innerBytes(DATA, 32));
        same("five of them", Arrays.copyOf(due[1], 5), bench.innerBytes(DATA + 33, 5));
        same("no more than five", new byte[1], bench.innerBytes(DATA + 38, 1));
        same("the last byte", Arrays.copyOf(due[2], 1), bench.innerBytes(BASE + 1023, 1));
        int[] answers = {0, 0, -1, -1, -1, 0, -1};
        for (int i = 0; i < answers.length; i++) {
            check.is("RANDOM number " + i, answers[i], bench.house.inside(thread, 20 + i));
        }
        check.is("how often it asked", 3, bench.house.enclave(0, 7));
    }

    private static byte[] chained(byte[] log, int... numbers) {
        return Bench.sha(log, Bench.numbers(numbers));
    }

    private static void selfAndLog() {
        check.terms(7, 14, "The LOG (32 bytes 0 at first) becomes, with each CALL 1 to 11, 19, 20 of the system "
            + "that is not refused, SHA-256 of itself, x17, p, q, r, s (from outside, too).");
        check.terms(6, 14, "39 SELF: the 32 bytes of its MEASUREMENT are written at p. 0.");
        Bench bench = new Bench(SEED);
        Code code = new Code().callTo(20, 39, DATA, 0).callTo(21, 50, DATA + 32, 0).exit(0);
        code.poke(bench.house, 0x1000);
        byte[] log = new byte[32];
        bench.house.call(1, 1, BASE, 1024, 7, 8);
        log = chained(log, 1, BASE, 1024, 7, 8);
        bench.call(1, BASE, 1024);
        bench.call(12, 1);
        bench.call(13, 1);
        bench.call(2, 0, 0, 0x1000);
        log = chained(log, 2, 0, 0, 0x1000, 0);
        bench.call(3, 0, 0, 16);
        log = chained(log, 3, 0, 0, 16, 0);
        bench.call(4, 0, 1);
        log = chained(log, 4, 0, 1, 0, 0);
        bench.call(9, 0, 0xa000, 256);
        log = chained(log, 9, 0, 0xa000, 256, 0);
        bench.call(11, 1);
        log = chained(log, 11, 1, 0, 0, 0);
        bench.call(19, 1000);
        log = chained(log, 19, 1000, 0, 0, 0);
        bench.call(20, 0, 0xb000, 256, 5);
        log = chained(log, 20, 0, 0xb000, 256, 5);
        bench.call(16, 0, 0);
        bench.call(21);
        bench.call(1, 0xc000, 256);
        log = chained(log, 1, 0xc000, 256, 0, 0);
        bench.call(10, 0, 1, 0xd000, 256);
        log = chained(log, 10, 0, 1, 0xd000, 256);
        bench.call(8, 1);
        log = chained(log, 8, 1, 0, 0, 0);
        bench.call(7, 0, 0);
        log = chained(log, 7, 0, 0, 0, 0);
        bench.call(8, 0);
        log = chained(log, 8, 0, 0, 0, 0);
        int thread = bench.enclave(BASE, 1024, 1, code);
        log = chained(log, 1, BASE, 1024, 0, 0);
        log = chained(log, 2, 0, 0, 0x1000, 0);
        log = chained(log, 3, 0, 0, 1024, 0);
        log = chained(log, 4, 0, 1, 0, 0);
        bench.enter(thread, 3, 4);
        log = chained(log, 5, 0, 3, 4, 0);
        same("SELF", measured(bench, 0), bench.innerBytes(DATA, 32));
        same("the LOG", log, bench.innerBytes(DATA + 32, 32));
        check.is("answers", 0, bench.house.inside(thread, 20) | bench.house.inside(thread, 21));
    }

    private static void records() {
        check.terms(6, 14, "49 EXTEND: the RECORD becomes SHA-256 of itself and 32 bytes at p. 0.");
        Bench bench = new Bench(SEED);
        Code code = new Code().callTo(20, 49, DATA, 0).callTo(21, 49, DATA + 1, 0).call(34, DATA, DATA + 64).exit(0);
        int thread = bench.enclave(BASE, 1024, 0, code);
        bench.house.secret(0, 0x301, 5);
        bench.enter(thread, 0, 0);
        byte[] data = new byte[33];
        data[1] = 5;
        byte[] record = Bench.sha(new byte[32], Arrays.copyOfRange(data, 0, 32));
        record = Bench.sha(record, Arrays.copyOfRange(data, 1, 33));
        byte[] due = report(Bench.root(SEED, 0), measured(bench, 0), record, Arrays.copyOf(data, 32));
        same("the record in a report", due, bench.innerBytes(DATA + 64, 128));
        check.is("answers", 0, bench.house.inside(thread, 20) | bench.house.inside(thread, 21));
    }

    private static Code mailCode() {
        return new Code().callTo(20, 41, DATA, 0).callTo(21, 41, DATA + 64, 0).exit(0);
    }

    private static void mail() {
        check.terms(6, 14, "FULL: its BOX has one. 0. 41 RECEIVE at p, 64 bytes: what is in the BOX, and the "
            + "MEASUREMENT of who sent it (as it was then): 1; the BOX is empty then; 0, and nothing is written: "
            + "it is empty.");
        check.terms(5, 22, "6 SEND, eight times (to, k, word k of it), 7 RECEIVE (1 or 0, 0, 0; ahead of what it "
            + "stores),");
        Bench bench = new Bench(SEED);
        int getter = bench.enclave(BASE, 1024, 0, mailCode());
        Code code = new Code().callTo(20, 40, 0, 0x9301).callTo(21, 40, 0, 0x9300).exit(0);
        int sender = bench.enclave(0x9000, 1024, 0, code);
        bench.house.secret(1, 0x301, 0x44);
        bench.house.secret(1, 0x302, 0x33);
        bench.house.secret(1, 0x303, 0x22);
        bench.house.secret(1, 0x304, 0x91);
        bench.house.secret(1, 0x320, 0x66);
        check.is("no mail yet", 0, bench.house.enclave(0, 6));
        bench.enter(sender, 0, 0);
        check.is("SEND", 0, bench.house.inside(sender, 20));
        check.is("its box has one", -5, bench.house.inside(sender, 21));
        check.is("a mail", 1, bench.house.enclave(0, 6));
        check.is("word 0", "6: 0 0 " + 0x91223344, bench.brief(0));
        check.is("word 7", "6: 0 7 " + 0x66000000, bench.brief(7));
        check.is("eight of them and EXIT", 9, bench.house.count(5));
        bench.enter(getter, 0, 0);
        check.is("RECEIVE", 1, bench.house.inside(getter, 20));
        check.is("then it is empty", 0, bench.house.inside(getter, 21));
        check.is("no mail", 0, bench.house.enclave(0, 6));
        same("what was sent", bench.innerBytes(0x9301, 32), bench.innerBytes(DATA, 32));
        same("who sent it", measured(bench, 1), bench.innerBytes(DATA + 32, 32));
        same("nothing is written", new byte[64], bench.innerBytes(DATA + 64, 64));
        check.is("events", "7: 1 0 0, 7: 0 0 0", bench.brief(9) + ", " + bench.brief(10));
    }

    private static void nothingIsLeftOfAnEnclave() {
        check.terms(5, 18, "a RECORD (32 bytes, 0 when it becomes READY); a BOX for one mail;");
        Bench bench = new Bench(SEED);
        bench.enclave(BASE, 1024, 0, mailCode());
        int sender = bench.enclave(0x9000, 1024, 0, new Code().call(40, 0, 0x9300).call(49, 0x9300, 0)
            .call(34, 0x9300, 0x9340).exit(0));
        bench.enter(sender, 0, 0);
        byte[] measurement = measured(bench, 1);
        for (int i = 0; i < 2; i++) {
            bench.call(7, i);
            bench.call(8, i);
        }
        bench.call(1, BASE, 1024);
        check.is("no mail", 0, bench.house.enclave(0, 6));
        Code code = new Code().call(34, 0x9300, 0x9340).exit(0);
        int next = bench.enclave(0x9000, 1024, 0, code);
        bench.enter(next, 0, 0);
        check.is("another measurement", false, Bench.hex(measurement).equals(Bench.hex(measured(bench, 1))));
        byte[] due = report(Bench.root(SEED, 0), measured(bench, 1), new byte[32], new byte[32]);
        same("the record is 0 again", due, bench.innerBytes(0x9340, 128));
    }

    private static void mailRefusals() {
        check.terms(6, 14, "40 SEND enclave p (BAD also: itself) the 32 bytes at q. STATE: that is not READY.");
        check.terms(6, 14, "(All 64 must be LET THROUGH in any case.)");
        Bench bench = new Bench(SEED);
        Code code = new Code().callTo(20, 40, 0, DATA).callTo(21, 40, 1, DATA).callTo(22, 40, 2, DATA)
            .callTo(23, 40, -1, DATA).callTo(24, 40, 6, DATA).callTo(25, 40, 1, BASE + 1024 - 31)
            .callTo(26, 41, BASE + 1024 - 63, 0).exit(0);
        int thread = bench.enclave(BASE, 1024, 0, code);
        bench.call(1, 0x9000, 256);
        bench.enter(thread, 0, 0);
        int[] due = {-1, -2, -1, -1, -1, -1, -1};
        for (int i = 0; i < due.length; i++) {
            check.is("mail number " + i, due[i], bench.house.inside(thread, 20 + i));
        }
        check.is("only EXIT is an event", 1, bench.house.count(5));
        bench.call(4, 1, 0);
        bench.call(7, 1);
        bench.enter(thread, 0, 0);
        check.is("STOPPED", -2, bench.house.inside(thread, 21));
    }

    private static void counters() {
        check.terms(6, 14, "42 COUNT: the COUNTER of this MEASUREMENT is one more: what it is.");
        Bench bench = new Bench(SEED);
        Code code = new Code().callTo(20, 42, 0, 0).callTo(21, 42, 0, 0).exit(0);
        int first = bench.enclave(BASE, 256, 0, code);
        int second = bench.enclave(0x9000, 256, 0, code);
        int third = bench.enclave(0xa000, 256, 1, code);
        bench.enter(first, 0, 0);
        bench.enter(second, 0, 0);
        bench.enter(third, 0, 0);
        check.is("the first", "1 2", bench.house.inside(first, 20) + " " + bench.house.inside(first, 21));
        check.is("the same measurement", "3 4", bench.house.inside(second, 20) + " " + bench.house.inside(second, 21));
        check.is("another measurement", "1 2", bench.house.inside(third, 20) + " " + bench.house.inside(third, 21));
        check.is("measurements with a counter", 2, bench.house.count(16));
        check.is("events", "8: 1 0 0, 8: 2 0 0", bench.brief(0) + ", " + bench.brief(1));
    }

    private static void countersAreFull() {
        check.terms(6, 14, "FULL: 8 MEASUREMENTS have one, and this has none (it is 0 then).");
        Bench bench = new Bench(SEED);
        int thread = 0;
        for (int i = 0; i < 9; i++) {
            thread = bench.enclave(BASE, 256, 0, new Code().callTo(20, 42, 0, 0).exit(i));
            bench.enter(thread, 0, 0);
            check.is("counter " + i, i < 8 ? 1 : -5, bench.house.inside(thread, 20));
            bench.call(7, 0);
            bench.call(8, 0);
        }
        check.is("measurements with a counter", 8, bench.house.count(16));
        check.is("events", 17, bench.house.count(5));
        thread = bench.enclave(BASE, 256, 0, new Code().callTo(20, 42, 0, 0).exit(7));
        bench.enter(thread, 0, 0);
        check.is("one that has a counter", 2, bench.house.inside(thread, 20));
    }

    private static void countersOutliveBoot() {
        check.promise(2, "but for THE DISK and COUNTERS:");
        Bench bench = new Bench(SEED);
        Code code = new Code().callTo(20, 42, 0, 0).exit(0);
        for (int i = 1; i < 4; i++) {
            int thread = bench.enclave(BASE, 256, 0, code);
            bench.enter(thread, 0, 0);
            check.is("boot " + i, i, bench.house.inside(thread, 20));
            bench.house.boot(i);
            check.is("measurements with a counter", 1, bench.house.count(16));
        }
    }

    /** What each call answers when its bytes are not LET THROUGH. */
    private static void reach() {
        check.terms(6, 14, "what is read or written must be LET THROUGH byte by byte, else BAD;");
        int end = BASE + 1024;
        int[][] given = {
            {34, end - 31, DATA}, {34, DATA, end - 127}, {34, 0x100, DATA}, {34, DATA, -1}, {35, 1, end - 31},
            {35, 1, BASE - 1}, {36, end - 3, 4}, {37, end - 127, 0}, {37, -128, 0}, {39, end - 31, 0}, {39, 0, 0},
            {41, end - 63, 0}, {49, end - 31, 0}, {49, 131072 - 16, 0}, {50, end - 31, 0}, {50, 0xa000, 0}
        };
        for (int[] one : given) {
            Bench bench = new Bench(SEED);
            int thread = bench.enclave(BASE, 1024, 0, new Code().callTo(20, one[0], one[1], one[2]).exit(0));
            bench.call(9, 0, 0xa000, 256);
            bench.enter(thread, 0, 0);
            check.is("call " + one[0] + " at " + one[1] + " " + one[2], -1, bench.house.inside(thread, 20));
            check.is("nothing is written", 0, bench.house.inner(DATA) | bench.house.inner(end - 4));
            check.is("it did not ask", 0, bench.house.enclave(0, 7));
        }
        int[][] fine = {
            {34, end - 32, DATA}, {34, DATA, end - 128}, {37, end - 128, 0}, {39, end - 32, 0}, {41, end - 64, 0}
        };
        for (int[] one : fine) {
            Bench bench = new Bench(SEED);
            int thread = bench.enclave(BASE, 1024, 0, new Code().callTo(20, one[0], one[1], one[2]).exit(0));
            bench.enter(thread, 0, 0);
            check.is("call " + one[0] + " at " + one[1] + " " + one[2], 0, bench.house.inside(thread, 20));
        }
    }

    private static void overlappingReport() {
        check.terms(6, 14, "all is read before anything is written):");
        Bench bench = new Bench(SEED);
        int thread = bench.enclave(BASE, 1024, 0, new Code().call(34, DATA + 5, DATA).exit(0));
        for (int i = 0; i < 32; i++) {
            bench.house.secret(0, 0x305 + i, i + 1);
        }
        byte[] data = bench.innerBytes(DATA + 5, 32);
        bench.enter(thread, 0, 0);
        byte[] due = report(Bench.root(SEED, 0), measured(bench, 0), new byte[32], data);
        same("all is read before anything is written", due, bench.innerBytes(DATA, 128));
    }

    private static void writesToShared() {
        check.terms(5, 22, "also by the monitor at a THREAD'S CALL: byte by byte),");
        Bench bench = new Bench(SEED);
        Code code = new Code().call(38, 1, 0).callTo(20, 39, 0x83f0, 0).callTo(21, 41, 0x83e0, 0).exit(0);
        int thread = bench.enclave(BASE, 1024, 0, code);
        bench.call(9, 0, 0x8400, 256);
        bench.enter(thread, 0, 0);
        byte[] due = measured(bench, 0);
        same("across two regions", due, bench.innerBytes(0x83f0, 32));
        check.is("events", 1 + 16 + 1 + 1, bench.house.count(5));
        for (int i = 0; i < 16; i++) {
            check.is("byte by byte", "4: " + (0x8400 + i) + " " + (due[16 + i] & 255) + " 1", bench.brief(1 + i));
        }
        check.is("RECEIVE of none", "7: 0 0 0", bench.brief(17));
    }
}
