import java.util.function.Supplier;

/** The document's Terms, section 6: the CALLS of THREADS. */
final class ThreadCallEdges {
    private static final int MIN = Integer.MIN_VALUE;
    private static final int MAX = Integer.MAX_VALUE;
    private static final int BASE = 0x8000;
    /** Where agents keep data; their code lies ahead of it. */
    private static final int DATA = BASE + 0x200;
    private static final int EXTRA = 0xd000;
    private static final int SEED = 1;

    private final Edges edges;

    private ThreadCallEdges(Edges itsEdges) {
        edges = itsEdges;
    }

    static void all(Edges edges) {
        ThreadCallEdges of = new ThreadCallEdges(edges);
        of.letThrough();
        of.byteByByte();
        of.readBeforeWritten();
        of.refusedChangesNothing();
        of.exitAndYield();
        of.attest();
        of.key();
        of.random();
        of.verify();
        of.accept();
        of.acceptState();
        of.self();
        of.send();
        of.sendRefusals();
        of.receive();
        of.receiveNone();
        of.receiveReach();
        of.count();
        of.countFull();
        of.handle();
        of.returns();
        of.returnsRefused();
        of.claim();
        of.release();
        of.show();
        of.typed();
        of.extend();
        of.log();
    }

    /** An agent with EXTRA memory of 256 bytes, ACCEPTED. */
    private static Agent withExtra() {
        Agent agent = new Agent(new Bench(SEED), BASE);
        agent.ask(38, agent.bench.call(20, 0, EXTRA, 256));
        return agent;
    }

    private static byte[] measurement(Bench bench, int enclave) {
        byte[] bytes = new byte[32];
        for (int i = 0; i < 32; i++) {
            bytes[i] = (byte) (bench.call(16, enclave, i / 4) >>> 24 - 8 * (i & 3));
        }
        return bytes;
    }

    /** f, how many bytes, which of p and q is their place (0, 1), and the other one. */
    private static final int[][] REACHES = {
        {34, 32, 0, DATA}, {34, 128, 1, DATA}, {35, 32, 1, 7}, {36, 32, 0, 32}, {36, 1, 0, 1}, {37, 128, 0, 0},
            {39, 32, 0, 0},
        {41, 64, 0, 0}, {49, 32, 0, 0}, {50, 32, 0, 0}
    };

    private void letThrough() {
        edges.terms(6, 14, "Of THREADS (p and so on likewise; what is read or written must be LET THROUGH byte by "
            + "byte, else BAD; ");
        for (int[] one : REACHES) {
            Agent agent = withExtra();
            int n = one[1];
            int[] places = {EXTRA, EXTRA + 256 - n, EXTRA - 1, EXTRA + 257 - n, EXTRA - n, EXTRA + 256, 0, 131072 - n,
                131072, -n, -1, MIN, MAX, BASE + 1025 - n};
            for (int i = 0; i < places.length; i++) {
                int[] given = {one[3], one[3]};
                given[one[2]] = places[i];
                edges.is("CALL " + one[0] + ", " + n + " bytes at " + places[i], i < 2 ? 0 : -1,
                    agent.ask(one[0], given));
            }
        }
        // A SHARED REGION and a LINK, where nothing is fetched.
        for (int[] one : REACHES) {
            Bench bench = new Bench(SEED);
            Agent agent = new Agent(bench, BASE);
            bench.call(1, 0x7000, 256);
            agent.ask(38, bench.call(9, 0, EXTRA, 256));
            agent.ask(38, bench.call(10, 0, 1, EXTRA + 512, 256));
            for (int place : new int[] {EXTRA, EXTRA + 256 - one[1], EXTRA + 512, EXTRA + 768 - one[1]}) {
                int[] given = {one[3], one[3]};
                given[one[2]] = place;
                edges.is("CALL " + one[0] + ", " + one[1] + " bytes at " + place, 0, agent.ask(one[0], given));
            }
        }
        Bench bench = new Bench(SEED);
        Agent other = new Agent(bench, 0x9000);
        Agent agent = new Agent(bench, BASE);
        int shared = bench.call(9, 1, EXTRA, 256);
        agent.ask(38, shared);
        edges.are("SEND from a SHARED REGION", "0 1", agent.ask(40, 0, EXTRA + 224), other.ask(41, 0x9300));
        int[] places = {BASE + 1024 - 32, BASE, BASE + 1024 - 31, BASE - 1, 0x9000, 0, 131072 - 31, -32, MAX};
        for (int i = 0; i < places.length; i++) {
            edges.is("SEND from " + places[i], i < 2 ? 0 : -1, agent.ask(40, 0, places[i]));
            edges.is("its BOX", i < 2 ? 1 : 0, other.ask(41, 0x9300));
        }
    }

    /** EXTRA right behind the PRIVATE REGION, then a hole. */
    private void byteByByte() {
        edges.terms(6, 14, "must be LET THROUGH byte by byte, else BAD; ");
        Bench bench = new Bench(SEED);
        Agent agent = new Agent(bench, BASE);
        int region = bench.call(20, 0, BASE + 1024, 256);
        edges.is("across two REGIONS, one not ACCEPTED", -1, agent.ask(39, BASE + 1024 - 16));
        edges.is("nothing is written", 0, bench.house.inner(BASE + 1020));
        agent.ask(38, region);
        edges.is("across two REGIONS", 0, agent.ask(39, BASE + 1024 - 15));
        edges.is("its bytes", Bench.hex(measurement(bench, 0)), Bench.hex(bench.innerBytes(BASE + 1024 - 15, 32)));
        edges.is("up to the end of the second one", 0, agent.ask(34, BASE + 1010, BASE + 1280 - 128));
        edges.is("beyond it", -1, agent.ask(34, BASE + 1010, BASE + 1281 - 128));
    }

    private void readBeforeWritten() {
        edges.terms(6, 14, "all is read before anything is written): ");
        for (int shift : new int[] {-31, 0, 31, 64, 90, 127}) {
            Agent agent = new Agent(new Bench(SEED), BASE);
            agent.keep(0x220, 1, 2, 3, 4, 5, 6, 7, 8);
            byte[] data = agent.bytes(0x220, 32);
            agent.ask(34, BASE + 0x220, BASE + 0x220 - shift);
            edges.is("the data lies " + shift + " behind the REPORT", Bench.hex(report(agent, new byte[32], data)),
                Bench.hex(agent.bytes(0x220 - shift, 128)));
        }
    }

    private static byte[] report(Agent agent, byte[] record, byte[] data) {
        byte[] body = Bench.join(measurement(agent.bench, agent.enclave), record, data);
        return Bench.join(body, Bench.mac(Bench.root(SEED, 0), Bench.numbers(5), body));
    }

    /** A refused CALL of an agent leaves all as another BAD one does. */
    private void refused(String what, Supplier<Agent> made, int due, int f, int... given) {
        Agent twin = made.get();
        twin.ask(99);
        Agent agent = made.get();
        edges.is(what, due, agent.ask(f, given));
        // The YIELD behind it tells the answer, so the last EVENT differs in that.
        edges.is(what + ": nothing is changed", withoutLast(twin), withoutLast(agent));
    }

    private static String withoutLast(Agent agent) {
        String all = Views.ofMonitor(agent.bench.house);
        return all.substring(0, all.indexOf(" last event")) + Bench.hex(agent.bytes(0x200, 16));
    }

    private void refusedChangesNothing() {
        edges.terms(6, 14, "What is refused changes nothing.");
        refused("RANDOM: BAD", () -> new Agent(new Bench(SEED), BASE), -1, 36, DATA, 33);
        refused("RANDOM: BAD place", () -> new Agent(new Bench(SEED), BASE), -1, 36, BASE + 1023, 2);
        refused("ATTEST: BAD", () -> new Agent(new Bench(SEED), BASE), -1, 34, BASE + 1000, DATA);
        refused("ACCEPT: STATE", () -> new Agent(new Bench(SEED), BASE), -2, 38, 1);
        refused("RECEIVE: BAD with a mail", ThreadCallEdges::withMail, -1, 41, BASE + 1024 - 63);
        refused("SEND: FULL", ThreadCallEdges::whoSent, -5, 40, 0, BASE + 0x300);
        refused("CLAIM: STATE", ThreadCallEdges::withPath, -2, 45);
        refused("RELEASE: STATE", ThreadCallEdges::withExtra, -2, 46);
        refused("SHOW: STATE", ThreadCallEdges::withExtra, -2, 47, 65);
        refused("COUNT: FULL", ThreadCallEdges::ninth, -5, 42);
        Agent agent = withMail();
        agent.ask(41, BASE + 1024 - 63);
        edges.are("the mail is there still", "1 1", agent.bench.house.enclave(1, 6), agent.ask(41, DATA));
        agent = new Agent(new Bench(SEED), BASE);
        agent.ask(49, BASE + 1024 - 31);
        agent.ask(34, DATA + 0x100, DATA);
        edges.is("the RECORD stays", Bench.hex(new byte[32]), Bench.hex(agent.bytes(0x220, 32)));
    }

    /** Enclave 1, which enclave 0 sent a mail. */
    private static Agent withMail() {
        Bench bench = new Bench(SEED);
        Agent sender = new Agent(bench, 0x9000, 3, 0);
        Agent agent = new Agent(bench, BASE);
        sender.keep(0x300, 0x11, 0x22, 0x33, 0x44, 0x55, 0x66, 0x77, 0x88);
        sender.ask(40, 1, 0x9300);
        return agent;
    }

    /** Enclave 1, which sent enclave 0 a mail. */
    private static Agent whoSent() {
        Bench bench = new Bench(SEED);
        new Agent(bench, 0x9000);
        Agent agent = new Agent(bench, BASE);
        agent.ask(40, 0, DATA);
        return agent;
    }

    private static Agent withPath() {
        Agent agent = new Agent(new Bench(SEED), BASE);
        agent.ask(45);
        agent.ask(47, 66);
        agent.bench.house.type(3);
        return agent;
    }

    /** An agent whose MEASUREMENT is the ninth, eight others having a COUNTER. */
    private static Agent ninth() {
        Bench bench = new Bench(SEED);
        for (int mark = 1; mark < 9; mark++) {
            new Agent(bench, BASE, mark, 0).ask(42);
            bench.call(7, 0);
            bench.call(8, 0);
        }
        return new Agent(bench, BASE, 9, 0);
    }

    private void exitAndYield() {
        edges.terms(6, 14, "32 EXIT with p. 33 YIELD with p.");
        for (int f = 32; f < 34; f++) {
            for (int value : new int[] {0, MIN, MAX, -1}) {
                Bench bench = new Bench(SEED);
                int thread = bench.enclave(BASE, 256, 0, new Code().call(f, value, 9));
                bench.enter(thread, 1, 2);
                edges.is("CALL " + f + " with " + value, (f - 32) + " " + value + " 0, " + (f == 32 ? 1 : 4),
                    bench.house.register(0, 10) + " "
                    + bench.house.register(0, 11) + " " + bench.house.register(0, 12) + ", "
                    + bench.house.thread(thread, 0));
            }
        }
    }

    private void attest() {
        edges.terms(6, 14, "34 ATTEST: 32 bytes of data at p; a REPORT of 128 bytes is written at q. 0.");
        Agent agent = new Agent(new Bench(SEED), BASE);
        agent.keep(0x301, 0x04030201, -1, MIN, 0, 0, 0, 0, MAX);
        agent.keep(0x280, -1);
        agent.keep(0x1fc, -1);
        edges.is("ATTEST", 0, agent.ask(34, BASE + 0x301, DATA));
        edges.is("the REPORT", Bench.hex(report(agent, new byte[32], agent.bytes(0x301, 32))),
            Bench.hex(agent.bytes(0x200, 128)));
        edges.are("those beside it", "-1 -1", agent.bench.house.inner(BASE + 0x1fc),
            agent.bench.house.inner(BASE + 0x280));
    }

    private void key() {
        edges.terms(6, 14, "35 KEY: the 32 bytes of the KEY for label p are written at q. 0.");
        for (int label : new int[] {0, 1, -1, MIN, MAX}) {
            Agent agent = new Agent(new Bench(SEED), BASE);
            agent.keep(0x220, -1);
            edges.is("KEY", 0, agent.ask(35, label, DATA));
            byte[] due = Bench.mac(Bench.root(SEED, 0), Bench.numbers(6), measurement(agent.bench, 0),
                Bench.numbers(label));
            edges.is("label " + label, Bench.hex(due), Bench.hex(agent.bytes(0x200, 32)));
            edges.is("no more than that", -1, agent.bench.house.inner(DATA + 32));
        }
    }

    private void random() {
        edges.terms(6, 14, "36 RANDOM: q (1 .. 32) bytes are written at p. 0.");
        for (int n : new int[] {1, 2, 3, 31, 32}) {
            Agent agent = new Agent(new Bench(SEED), BASE);
            byte[] due = Bench.mac(Bench.root(SEED, 0), Bench.numbers(7), measurement(agent.bench, 0),
                Bench.numbers(1, 0));
            edges.is(n + " bytes", 0, agent.ask(36, DATA, n));
            byte[] got = agent.bytes(0x200, 33);
            for (int i = 0; i < 33; i++) {
                edges.is(n + " bytes, byte " + i, i < n ? due[i] : 0, got[i]);
            }
        }
        Agent agent = new Agent(new Bench(SEED), BASE);
        for (int n : new int[] {0, 33, -1, 256 + 1, MIN, MAX}) {
            edges.are(n + " bytes", "-1 0", agent.ask(36, DATA, n), agent.bench.house.enclave(0, 7));
        }
    }

    private void verify() {
        edges.terms(6, 14, "37 VERIFY: whether 128 bytes at p are a REPORT of this machine's: 1, else 0.");
        Bench bench = new Bench(SEED);
        Agent agent = new Agent(bench, BASE);
        edges.is("all 0", 0, agent.ask(37, DATA));
        agent.ask(34, BASE + 0x300, DATA);
        edges.is("its REPORT", 1, agent.ask(37, DATA));
        for (int at : new int[] {0, 31, 32, 63, 64, 95, 96, 127}) {
            int was = bench.house.secret(0, 0x200 + at, 0);
            bench.house.secret(0, 0x200 + at, was ^ 1);
            edges.is("byte " + at + " is another one", 0, agent.ask(37, DATA));
            bench.house.secret(0, 0x200 + at, was);
        }
        edges.is("one byte on", 0, agent.ask(37, DATA + 1));
        byte[] report = agent.bytes(0x200, 128);
        edges.is("on a machine of another seed", 0, verified(2, 0, report));
        edges.is("on one of the same seed and version", 1, verified(SEED, 0, report));
        edges.is("on one of another version", 0, verified(SEED, 1, report));
        Agent other = new Agent(bench, 0x9000, 5, 1);
        int region = bench.call(10, 0, 1, 0xc000, 256);
        agent.ask(38, region);
        other.ask(38, region);
        agent.ask(34, BASE + 0x300, 0xc000);
        edges.is("of another enclave", 1, other.ask(37, 0xc000));
    }

    /** By secret() a REPORT comes into another machine, so it is told there by 128 bytes in all. */
    private static int verified(int seed, int version, byte[] report) {
        Bench bench = new Bench(seed);
        bench.house.boot(version);
        Agent agent = new Agent(bench, BASE);
        for (int i = 0; i < 128; i++) {
            bench.house.secret(0, 0x200 + i, report[i] & 255);
        }
        return agent.ask(37, DATA);
    }

    private void accept() {
        edges.terms(6, 14, "38 ACCEPT REGION p: BAD also: it is no SHARED REGION, LINK, EXTRA of this enclave.");
        Bench bench = new Bench(SEED);
        Agent agent = new Agent(bench, BASE);
        Agent other = new Agent(bench, 0x9000);
        bench.call(1, 0xa000, 256);
        bench.call(9, 1, 0xb000, 256);
        bench.call(10, 1, 2, 0xb100, 256);
        bench.call(20, 1, 0xb200, 256);
        for (int region : new int[] {-1, 0, 2, 3, 4, 5, 6, 7, 8, 11, 12, MIN, MAX}) {
            edges.is("REGION " + region, -1, agent.ask(38, region));
        }
        edges.are("they are of the other one", "0 0 0", other.ask(38, 5), other.ask(38, 6), other.ask(38, 7));
        bench.call(8, 2);
        edges.are("one of the same number, of another SORT", "4 0", bench.call(9, 0, 0xa000, 256), agent.ask(38, 4));
        int[] mine = {bench.call(9, 0, 0xc000, 256), bench.call(10, 0, 1, 0xc100, 256),
            bench.call(10, 1, 0, 0xc200, 256), bench.call(20, 0, 0xc300, 256)};
        int[] sides = {1, 1, 2, 1};
        for (int i = 0; i < 4; i++) {
            edges.are("SORT " + bench.house.region(mine[i], 0), "0 " + sides[i], agent.ask(38, mine[i]),
                bench.house.region(mine[i], 5));
        }
    }

    private void acceptState() {
        edges.terms(6, 14, "STATE: it was ACCEPTED by it. 0. 39");
        Bench bench = new Bench(SEED);
        Agent agent = new Agent(bench, BASE);
        Agent other = new Agent(bench, 0x9000);
        int link = bench.call(10, 0, 1, 0xc000, 256);
        edges.are("by the first", "0 -2 1", agent.ask(38, link), agent.ask(38, link), bench.house.region(link, 5));
        edges.are("by the other one", "0 -2 3", other.ask(38, link), other.ask(38, link), bench.house.region(link, 5));
        bench.call(11, link);
        bench.call(10, 1, 0, 0xc000, 256);
        edges.are("one of the same number", "0 2", agent.ask(38, link), bench.house.region(link, 5));
    }

    private void self() {
        edges.terms(6, 14, "39 SELF: the 32 bytes of its MEASUREMENT are written at p. 0.");
        for (int flags = 0; flags < 2; flags++) {
            Agent agent = new Agent(new Bench(SEED), BASE, 7, flags);
            agent.keep(0x1fd, -1);
            agent.keep(0x221, -1);
            edges.is("SELF", 0, agent.ask(39, DATA + 1));
            edges.is("its bytes", "ff" + Bench.hex(agent.measurement(flags)) + "ff", Bench.hex(agent.bytes(0x200, 34)));
        }
    }

    private void send() {
        edges.terms(6, 14, "40 SEND enclave p (BAD also: itself) the 32 bytes at q.");
        Bench bench = new Bench(SEED);
        Agent other = new Agent(bench, 0x9000);
        Agent agent = new Agent(bench, BASE, 1, 0);
        for (int enclave : new int[] {-1, 1, 2, 5, 6, MIN, MAX}) {
            edges.is("enclave " + enclave, -1, agent.ask(40, enclave, DATA));
        }
        agent.keep(0x203, -2, 1, 2, 3, 4, 5, 6, MIN);
        edges.are("SEND", "0 1", agent.ask(40, 0, DATA + 3), bench.house.enclave(0, 6));
        edges.is("RECEIVE", 1, other.ask(41, 0x9201));
        edges.is("the 32 bytes", Bench.hex(agent.bytes(0x203, 32)), Bench.hex(other.bytes(0x201, 32)));
        edges.is("who sent it", Bench.hex(measurement(bench, 1)), Bench.hex(other.bytes(0x221, 32)));
    }

    private void sendRefusals() {
        edges.terms(6, 14, "STATE: that is not READY. FULL: its BOX has one. 0. 41");
        Bench bench = new Bench(SEED);
        Agent agent = new Agent(bench, BASE);
        bench.call(1, 0x9000, 256);
        edges.is("LOADING", -2, agent.ask(40, 1, DATA));
        bench.call(4, 1, 0);
        edges.are("READY, then its BOX has one", "0 -5", agent.ask(40, 1, DATA), agent.ask(40, 1, DATA));
        bench.call(7, 1);
        edges.is("STOPPED: STATE ahead of FULL", -2, agent.ask(40, 1, DATA));
        edges.is("BAD ahead of STATE", -1, agent.ask(40, 1, BASE + 1024 - 31));
    }

    private void receive() {
        edges.terms(6, 14, "41 RECEIVE at p, 64 bytes: what is in the BOX, and the MEASUREMENT of who sent it (as it "
            + "was then): 1; the BOX is empty then;");
        Agent agent = withMail();
        Bench bench = agent.bench;
        byte[] sender = measurement(bench, 0);
        bench.call(7, 0);
        bench.call(8, 0);
        new Agent(bench, 0x9000, 4, 1);
        edges.are("RECEIVE", "1 0", agent.ask(41, DATA), bench.house.enclave(1, 6));
        edges.is("the mail", Bench.hex(Bench.numbers(0x11, 0x22, 0x33, 0x44, 0x55, 0x66, 0x77, 0x88)),
            Bench.hex(agent.bytes(0x200, 32)));
        edges.is("who sent it, though there is another one now", Bench.hex(sender), Bench.hex(agent.bytes(0x220, 32)));
        edges.is("no more than that", 0, bench.house.inner(DATA + 64));
    }

    private void receiveNone() {
        edges.terms(6, 14, "0, and nothing is written: it is empty.");
        Agent agent = withMail();
        agent.ask(41, DATA);
        agent.keep(0x300, 1, 2, 3);
        edges.is("empty", 0, agent.ask(41, BASE + 0x300));
        edges.are("nothing is written", "1 2", agent.bench.house.inner(BASE + 0x300),
            agent.bench.house.inner(BASE + 0x304));
    }

    private void receiveReach() {
        edges.terms(6, 14, "(All 64 must be LET THROUGH in any case.)");
        for (int mail = 0; mail < 2; mail++) {
            for (int place : new int[] {BASE + 1024 - 64, BASE + 1024 - 63, BASE + 1024 - 32, BASE - 1, 0}) {
                Agent agent = mail == 1 ? withMail() : new Agent(new Bench(SEED), BASE);
                edges.is("with " + mail + " mails at " + place, place == BASE + 1024 - 64 ? mail : -1,
                    agent.ask(41, place));
            }
        }
    }

    private void count() {
        edges.terms(6, 14, "42 COUNT: the COUNTER of this MEASUREMENT is one more: what it is.");
        Bench bench = new Bench(SEED);
        Agent agent = new Agent(bench, BASE, 1, 0);
        Agent same = new Agent(bench, 0x9000, 1, 0);
        Agent other = new Agent(bench, 0xa000, 1, 1);
        edges.is("none has one", 0, bench.house.count(16));
        edges.are("two of one MEASUREMENT, one of another", "1 2 1 3 2", agent.ask(42), same.ask(42), other.ask(42),
            agent.ask(42), other.ask(42));
        edges.is("MEASUREMENTS with one", 2, bench.house.count(16));
        bench.call(7, 0);
        bench.call(8, 0);
        edges.is("it outlives the enclave", 4, new Agent(bench, 0xc000, 1, 0).ask(42));
        bench.house.boot(7);
        edges.are("and boot()", "5 2", new Agent(bench, BASE, 1, 0).ask(42), bench.house.count(16));
    }

    private void countFull() {
        edges.terms(6, 14, "FULL: 8 MEASUREMENTS have one, and this has none (it is 0 then).");
        Agent agent = ninth();
        Bench bench = agent.bench;
        edges.are("the ninth", "-5 8", agent.ask(42), bench.house.count(16));
        edges.is("again", -5, agent.ask(42));
        edges.are("the first and the eighth", "2 2", new Agent(bench, 0x9000, 1, 0).ask(42),
            new Agent(bench, 0xa000, 8, 0).ask(42));
        bench.house.boot(0);
        edges.are("behind boot()", "-5 3", new Agent(bench, BASE, 9, 0).ask(42), new Agent(bench, 0x9000, 8, 0)
            .ask(42));
        edges.is("on a new machine", 1, new Agent(new Bench(SEED), BASE, 9, 0).ask(42));
    }

    private void handle() {
        edges.terms(6, 14, "43 HANDLE: the HANDLER is p (BAD also: no multiple of 4; 0: none). 0.");
        Agent agent = new Agent(new Bench(SEED), BASE);
        for (int place : new int[] {1, 2, 3, -1, -2, MAX, MIN + 1, BASE + 2}) {
            edges.is("at " + place, -1, agent.ask(43, place));
        }
        for (int place : new int[] {0, 4, -4, MIN, MAX - 3, BASE}) {
            edges.is("at " + place, 0, agent.ask(43, place));
        }
        for (int handler : new int[] {BASE + 64, BASE + 66, 0}) {
            Bench bench = new Bench(SEED);
            // The first one stays, unless the second is as it must be.
            int thread = bench.enclave(BASE, 256, 0, new Code().call(43, BASE + 80, 0).call(43, handler, 0).word(0));
            bench.call(5, thread, 0, 0);
            bench.house.run(15);
            edges.are("then " + handler, handler == 0 ? "5 32824" : handler == BASE + 64 ? "2 32832" : "2 32848",
                bench.house.thread(thread, 0), bench.house.inside(thread, 32));
        }
        Bench bench = new Bench(SEED);
        int thread = bench.enclave(BASE, 256, 0, new Code().call(43, 0x400, 0).word(0));
        bench.enter(thread, 0, 0);
        edges.are("outside of all that is LET THROUGH: it goes there, and that is a FAULT", "3 1 1024",
            bench.house.register(0, 10), bench.house.register(0, 11), bench.house.inside(thread, 32));
    }

    /** An exception at BASE + 44 with x10 48 and x11 52, and a handler that does RETURN with p, and then with 8. */
    private static Bench returning(int p) {
        Bench bench = new Bench(SEED);
        Code code = new Code().call(43, BASE + 0x80, 0).set(10, 48).set(11, 52).word(0);
        while (code.size() < 0x80) {
            code.word(Code.NOTHING);
        }
        bench.enclave(BASE, 256, 0, code.call(44, p, 99).word(Code.byNumber(19, 10, 0, 0, 8)).word(Code.CALL));
        bench.call(5, 0, 0, 0);
        bench.house.run(12 + 7);
        return bench;
    }

    private static String state(Bench bench) {
        return bench.house.inside(0, 10) + " " + bench.house.inside(0, 11) + " " + bench.house.inside(0, 32);
    }

    private void returns() {
        edges.terms(6, 14, "44 RETURN: x10, x11 and the HANDLER are as HELD, and it goes on p behind the PC that is "
            + "HELD; nothing is HELD then. (No answer.)");
        for (int p : new int[] {0, 4, 8, -4, -44, MIN, MAX - 3, -BASE - 48}) {
            Bench bench = returning(p);
            edges.is("RETURN " + p, "48 52 " + (BASE + 44 + p), state(bench));
        }
        Bench bench = returning(0);
        bench.house.run(1);
        edges.is("onto the exception again: the HANDLER is as HELD", "2 32812 32896", state(bench));
        bench = returning(MIN);
        bench.house.run(1);
        edges.is("to where nothing is LET THROUGH", "1 " + (MIN + BASE + 44) + " 32896", state(bench));
        bench = returning(4);
        bench.house.secret(0, 48, 115);
        for (int i = 1; i < 4; i++) {
            bench.house.secret(0, 48 + i, 0);
        }
        // x17 is 44 still, so the CALL there is a second RETURN, and x10 would be fit for it.
        bench.house.run(1);
        edges.is("nothing is HELD then", "-1 52 32820", state(bench));
    }

    private void returnsRefused() {
        edges.terms(6, 14, "BAD also: nothing is HELD, or that is no multiple of 4.");
        Agent agent = new Agent(new Bench(SEED), BASE);
        for (int p : new int[] {0, 4, 2, -4, MIN}) {
            edges.is("nothing is HELD, " + p, -1, agent.ask(44, p));
        }
        for (int p : new int[] {1, 2, 3, -1, -2, MAX, MIN + 2}) {
            edges.is("no multiple of 4, " + p, "-1 99 " + (BASE + 0x80 + 28), state(returning(p)));
        }
        Bench bench = returning(2);
        bench.house.run(2);
        edges.is("it is HELD still", "48 52 " + (BASE + 52), state(bench));
    }

    private void claim() {
        edges.terms(6, 14, "45 CLAIM the PATH (8). STATE: it has it. BUSY: another one has. 0.");
        Bench bench = new Bench(SEED);
        Agent other = new Agent(bench, 0x9000);
        Agent agent = new Agent(bench, BASE);
        edges.is("nobody has it", -1, bench.house.count(20));
        edges.are("CLAIM", "0 1", agent.ask(45), bench.house.count(20));
        edges.are("it has it", "-2 1", agent.ask(45), bench.house.count(20));
        edges.are("another one has", "-3 1", other.ask(45), bench.house.count(20));
        agent.ask(46);
        edges.are("nobody has it again", "0 0", other.ask(45), bench.house.count(20));
        bench.call(7, 0);
        edges.are("a STOPPED one has it still", "-3 0", agent.ask(45), bench.house.count(20));
        bench.call(8, 0);
        edges.is("a DESTROYED one has not", 0, agent.ask(45));
    }

    private void release() {
        edges.terms(6, 14, "46 RELEASE it. STATE: it has it not. 0. 47");
        Bench bench = new Bench(SEED);
        Agent other = new Agent(bench, 0x9000);
        Agent agent = new Agent(bench, BASE);
        edges.is("nobody has it", -2, agent.ask(46));
        other.ask(45);
        edges.are("another one has", "-2 0", agent.ask(46), bench.house.count(20));
        edges.are("it has it", "0 -1", other.ask(46), bench.house.count(20));
        edges.is("again", -2, other.ask(46));
    }

    private void show() {
        edges.terms(6, 14, "47 SHOW: the lowest byte of p comes onto the PANEL. STATE as before. FULL: 64 are there. "
            + "How many are.");
        Bench bench = new Bench(SEED);
        Agent agent = new Agent(bench, BASE);
        edges.are("it has the PATH not", "-2 0", agent.ask(47, 1), bench.house.count(22));
        agent.ask(45);
        for (int i = 0; i < 64; i++) {
            edges.is("byte " + i, i + 1, agent.ask(47, 0x1ff00 - i));
        }
        edges.are("the first ones and the last one", "0 255 193", bench.house.panel(0), bench.house.panel(1),
            bench.house.panel(63));
        edges.are("FULL", "-5 64 193 -1", agent.ask(47, 7), bench.house.count(22), bench.house.panel(63),
            bench.house.panel(64));
        agent.ask(46);
        edges.is("STATE ahead of all", -2, agent.ask(47, 7));
        agent.ask(45);
        edges.are("room again", "1 7", agent.ask(47, 7), bench.house.panel(0));
    }

    private void typed() {
        edges.terms(6, 14, "48 TYPED: the key that waits longest on the PATH; 256: none does. STATE as before. 49");
        Bench bench = new Bench(SEED);
        Agent agent = new Agent(bench, BASE);
        edges.is("it has the PATH not", -2, agent.ask(48));
        bench.house.type(8);
        agent.ask(45);
        edges.is("none", 256, agent.ask(48));
        for (int key : new int[] {255, 0, 7}) {
            bench.house.type(key);
        }
        edges.are("in order", "255 0 7 256", agent.ask(48), agent.ask(48), agent.ask(48), agent.ask(48));
        edges.is("what waits for the system", 1, bench.house.count(19));
        bench.house.type(1);
        agent.ask(46);
        edges.is("STATE, though one waited", -2, agent.ask(48));
        Agent other = new Agent(bench, 0x9000);
        other.ask(45);
        bench.house.type(1);
        edges.are("another one has it", "-2 1", agent.ask(48), bench.house.count(21));
    }

    private void extend() {
        edges.terms(6, 14, "49 EXTEND: the RECORD becomes SHA-256 of itself and 32 bytes at p. 0. 50");
        Agent agent = new Agent(new Bench(SEED), BASE);
        agent.keep(0x303, -1, MIN, 3, 4, 5, 6, 7, MAX);
        byte[] record = new byte[32];
        for (int i = 0; i < 3; i++) {
            edges.is("EXTEND", 0, agent.ask(49, BASE + 0x303 + i));
            record = Bench.sha(record, agent.bytes(0x303 + i, 32));
            agent.ask(34, BASE + 0x380, DATA);
            edges.is("the RECORD", Bench.hex(record), Bench.hex(agent.bytes(0x220, 32)));
        }
    }

    private void log() {
        edges.terms(6, 14, "50 LOG: the 32 bytes of the LOG are written at p. 0.");
        Agent agent = new Agent(new Bench(SEED), BASE);
        agent.keep(0x221, -1);
        edges.is("LOG", 0, agent.ask(50, DATA + 1));
        edges.is("its bytes", "00" + Bench.hex(agent.bench.log) + "ff", Bench.hex(agent.bytes(0x200, 34)));
    }
}
