/** The document's Terms, section 8: THE PATH to the user, keys, and DMA. */
final class PathEdges {
    private static final int MIN = Integer.MIN_VALUE;
    private static final int MAX = Integer.MAX_VALUE;
    private static final int BASE = 0x8000;

    private final Edges edges;

    private PathEdges(Edges itsEdges) {
        edges = itsEdges;
    }

    static void all(Edges edges) {
        PathEdges of = new PathEdges(edges);
        of.keys();
        of.sixteen();
        of.emptied();
        of.disk();
        of.order();
        of.waiting();
        of.bytes();
        of.failing();
    }

    private void keys() {
        edges.terms(8, 15, "8 THE PATH to the user: keys (0 .. 255) and a PANEL of 64 bytes.");
        for (int path = 0; path < 2; path++) {
            Bench bench = new Bench(1);
            Agent agent = new Agent(bench, BASE);
            if (path == 1) {
                agent.ask(45);
            }
            for (int key : new int[] {-1, 256, MIN, MAX}) {
                edges.are("no key " + key, "-1 0 0", bench.house.type(key), bench.house.count(19),
                    bench.house.count(21));
            }
            for (int key : new int[] {0, 255}) {
                edges.is("key " + key, path, bench.house.type(key));
            }
            edges.are("what waits", path == 1 ? "0 2" : "2 0", bench.house.count(19), bench.house.count(21));
        }
    }

    private void sixteen() {
        edges.terms(8, 15, "While an enclave has it, keys that are typed wait on it (16 at most, others are lost), "
            + "else for the system (16 likewise).");
        Bench bench = new Bench(1);
        Agent agent = new Agent(bench, BASE);
        for (int i = 0; i < 16; i++) {
            edges.is("for the system", 0, bench.house.type(i));
        }
        edges.are("lost", "-1 16 0", bench.house.type(99), bench.house.count(19), bench.house.count(21));
        agent.ask(45);
        for (int i = 0; i < 16; i++) {
            edges.is("on the PATH", 1, bench.house.type(100 + i));
        }
        edges.are("lost", "-1 16 16", bench.house.type(99), bench.house.count(19), bench.house.count(21));
        edges.are("one taken, room for one", "100 1 -1", agent.ask(48), bench.house.type(200), bench.house.type(201));
        for (int i = 1; i < 16; i++) {
            edges.is("TYPED", 100 + i, agent.ask(48));
        }
        edges.are("the last ones", "200 256", agent.ask(48), agent.ask(48));
        edges.is("of the system's one taken", 0, bench.call(21));
        edges.are("while an enclave has it, none comes for the system", "1 15", bench.house.type(7),
            bench.house.count(19));
        agent.ask(46);
        edges.are("then one does", "0 -1", bench.house.type(8), bench.house.type(9));
        for (int i = 1; i < 16; i++) {
            edges.is("KEYS", i, bench.call(21));
        }
        edges.are("the last ones", "8 256", bench.call(21), bench.call(21));
    }

    private void emptied() {
        edges.terms(8, 16, "When it is claimed, or released, nothing waits on it, and the PANEL is empty.");
        Bench bench = new Bench(1);
        Agent agent = new Agent(bench, BASE);
        Agent other = new Agent(bench, 0x9000);
        bench.house.type(1);
        agent.ask(45);
        edges.is("claimed", "0 0 -1 1", state(bench));
        agent.ask(47, 65);
        bench.house.type(2);
        edges.is("one each", "1 1 65 1", state(bench));
        agent.ask(46);
        edges.is("released", "0 0 -1 1", state(bench));
        other.ask(45);
        edges.is("claimed by another one", "0 0 -1 1, 256", state(bench) + ", " + other.ask(48));
        bench.house.type(3);
        other.ask(47, 66);
        bench.call(7, 1);
        edges.is("a STOPPED one keeps all", "1 1 66 1", state(bench));
        bench.call(8, 1);
        edges.is("DESTROYED, that is released", "0 0 -1 1", state(bench));
    }

    /** Keys on the PATH, bytes on the PANEL, the first one, and keys for the system. */
    private static String state(Bench bench) {
        return bench.house.count(21) + " " + bench.house.count(22) + " " + bench.house.panel(0) + " "
            + bench.house.count(19);
    }

    private void disk() {
        edges.terms(8, 24, "DMA: THE DISK has 32 sectors of 256 bytes (0 at first).");
        EnclaveHouse house = new EnclaveHouse(1);
        for (int sector = 0; sector < 32; sector++) {
            edges.are("sector " + sector, "0 0 0", house.disk(sector, 0, -1), house.disk(sector, 77, -1),
                house.disk(sector, 255, -1));
        }
        for (int sector : new int[] {-1, 32, MIN, MAX}) {
            edges.are("no sector " + sector, "-1 -1", house.disk(sector, 0, -1), house.call(0, 14, 0, sector, 0, 0));
        }
        for (int k : new int[] {-1, 256, MIN, MAX}) {
            edges.is("no byte " + k, -1, house.disk(0, k, -1));
        }
    }

    private void order() {
        edges.terms(8, 14, "Requests wait in order.");
        EnclaveHouse house = new EnclaveHouse(1);
        house.disk(0, 0, 1);
        // Sector 0 to MEMORY, on to sector 1, back to another place, on to sector 2.
        house.call(0, 14, 0, 0, 0x400, 0);
        house.call(1, 14, 1, 1, 0x400, 0);
        house.call(0, 14, 0, 1, 0x800, 0);
        house.call(1, 14, 1, 2, 0x800, 0);
        String[] due = {"1 0 0 0 3", "1 1 0 0 2", "1 1 1 0 1", "1 1 1 1 0"};
        house.run(4);
        edges.are("behind 4 rounds", "0 0 0 0 4", house.word(0x400), house.disk(1, 0, -1), house.word(0x800),
            house.disk(2, 0, -1), house.count(7));
        for (int i = 0; i < 4; i++) {
            house.run(1);
            edges.are("behind " + (5 + i) + " rounds", due[i], house.word(0x400), house.disk(1, 0, -1),
                house.word(0x800), house.disk(2, 0, -1), house.count(7));
        }
    }

    private void waiting() {
        edges.terms(8, 14, "At the end of each ROUND each has waited for one more (0 when it came); then the first "
            + "one, if it has waited for 5 or more, is done (one in a ROUND): ");
        EnclaveHouse house = new EnclaveHouse(1);
        house.call(0, 14, 0, 0, 0x400, 0);
        house.run(3);
        house.call(0, 14, 0, 0, 0x400, 0);
        house.run(1);
        house.call(0, 14, 0, 0, 0x400, 0);
        String[] due = {"2 1", "2 1", "2 1", "1 2", "0 3", "0 3"};
        for (int i = 0; i < due.length; i++) {
            house.run(1);
            edges.are("wait and done behind " + (5 + i) + " rounds", due[i], house.count(7), house.count(17));
        }
        house.call(0, 14, 0, 0, 0x400, 0);
        house.run(4);
        edges.are("one more, behind 4 rounds", "1 3", house.count(7), house.count(17));
        house.run(1);
        edges.are("one more, behind 5 rounds", "0 4", house.count(7), house.count(17));
        // A DMA that the system asks for in a ROUND has waited for one at its end.
        Steps steps = new Steps(Code.CALL, Code.NOTHING, Code.NOTHING, Code.NOTHING, Code.NOTHING, Code.NOTHING)
            .set(17, 14).set(10, 0).set(11, 0).set(12, 0x400);
        steps.run(4);
        edges.are("asked for in a ROUND, behind 4 rounds", "1 0", steps.house.count(7), steps.house.count(17));
        steps.run(1);
        edges.are("asked for in a ROUND, behind 5 rounds", "0 1", steps.house.count(7), steps.house.count(17));
        house = new EnclaveHouse(1);
        for (int i = 0; i < 4; i++) {
            house.call(0, 14, 0, i, 0x400, 0);
        }
        house.run(8);
        edges.are("four at once, one in a ROUND", "0 4", house.count(7), house.count(17));
    }

    private void bytes() {
        edges.terms(8, 14, "the bytes go from the sector to MEMORY, or back, ");
        EnclaveHouse house = new EnclaveHouse(1);
        for (int k : new int[] {0, 1, 2, 3, 4, 127, 128, 254, 255}) {
            house.disk(31, k, 255 - k);
        }
        house.poke(0x3fc, 0x11, 0x22, 0x33, 0x44, 0x55);
        house.poke(0x4fc, 0x66, 0x77, 0x88, 0x99, 0xaa);
        house.call(0, 14, 0, 31, 0x400, 0);
        house.call(0, 14, 1, 0, 0x404, 0);
        house.run(6);
        edges.are("those beside it", "17 119", house.word(0x3fc), house.word(0x500));
        edges.are("the first and the last word", 0xfcfdfeff + " " + 0x00010000, house.word(0x400), house.word(0x4fc));
        edges.are("back, from four bytes on", "251 0 1 0 119 0 0 0", house.disk(0, 0, -1), house.disk(0, 1, -1),
            house.disk(0, 250, -1), house.disk(0, 251, -1), house.disk(0, 252, -1), house.disk(0, 253, -1),
            house.disk(0, 254, -1), house.disk(0, 255, -1));
        edges.are("the sector stays, and the next one", "255 0", house.disk(31, 0, -1), house.disk(1, 0, -1));
    }

    private void failing() {
        edges.terms(8, 14, "if all those of MEMORY are OPEN then; else it FAILED.");
        int[][] given = {{BASE - 256, 0}, {BASE - 252, 1}, {BASE, 1}, {BASE + 252, 1}, {BASE + 256, 0}};
        for (int back = 0; back < 2; back++) {
            for (int[] one : given) {
                Bench bench = new Bench(1);
                EnclaveHouse house = bench.house;
                for (int i = 0; i < 4; i++) {
                    house.disk(5, i, 7);
                    house.disk(5, 252 + i, 7);
                }
                bench.call(14, back, 5, one[0]);
                bench.call(1, BASE, 256);
                house.secret(0, 0, 9);
                house.secret(0, 255, 9);
                house.run(5);
                edges.are("at " + one[0] + ", " + back, "0 1 " + one[1], house.count(7), house.count(17),
                    house.count(18));
                edges.are("the enclave's bytes", 9 + " " + (9 << 24), house.inner(BASE), house.inner(BASE + 252));
                boolean moved = one[1] == 0;
                edges.is("the sector", back == 1 && moved ? 0 : 7, house.disk(5, 0, -1));
                int first = one[0] < BASE ? one[0] : one[0] + 252;
                edges.is("MEMORY", back == 0 && moved ? 0x07070707 : one[0] == BASE ? 9 << 24 : 0, house.inner(first));
            }
        }
        Bench bench = new Bench(1);
        bench.call(1, BASE, 256);
        bench.call(9, 0, 0xa000, 256);
        bench.call(14, 0, 0, 0xa000);
        bench.call(14, 0, 0, BASE);
        bench.house.run(4);
        bench.call(8, 0);
        bench.house.run(2);
        edges.are("SHARED, and what is OPEN by then", "2 0", bench.house.count(17), bench.house.count(18));
    }
}
