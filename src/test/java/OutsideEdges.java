/** The document's Terms, section 9 OUTSIDE, and promise 27. */
final class OutsideEdges {
    private static final int MIN = Integer.MIN_VALUE;
    private static final int MAX = Integer.MAX_VALUE;
    private static final int[] CONTROLS = {0x100, 0x104, 0x105, 0x140, 0x141, 0x142, 0x143, 0x144, 0x14d, 0x180};
    private static final int[] MASKS = {786722, 546, -4, -1, -4, -1, -1, 2, -1, 0x803fffff};

    private final Edges edges;

    private OutsideEdges(Edges itsEdges) {
        edges = itsEdges;
    }

    static void all(Edges edges) {
        OutsideEdges of = new OutsideEdges(edges);
        of.atFirst();
        of.words();
        of.notOpen();
        of.harts();
        of.controls();
        of.time();
        of.regions();
        of.enclaves();
        of.threads();
        of.console();
        of.disk();
        of.dmas();
        of.path();
        of.keys();
        of.off();
        of.withoutReservations();
    }

    private void same(String what, Outside due, EnclaveHouse house) {
        edges.is(what, due.number(), house.outside());
    }

    private void atFirst() {
        edges.promise(27, "OUTSIDE.");
        same("a new object", new Outside(), new EnclaveHouse(5));
        same("of another seed", new Outside(), new EnclaveHouse(MIN));
        EnclaveHouse house = new EnclaveHouse(5);
        house.boot(7);
        same("of another version", new Outside(), house);
        edges.is("asked twice", house.outside(), house.outside());
    }

    private void words() {
        edges.terms(9, 27, "9 OUTSIDE is a number of what lies open to the system: x is 1; for each number v in this "
            + "order (with its sign) x becomes x * 6364136223846793005 + v + 1 (64 bits): all WORDS of MEMORY by "
            + "places, ");
        EnclaveHouse house = new EnclaveHouse(5);
        house.poke(0, MIN, -1, MAX, 0, 1);
        house.poke(131052, 1, 2, 3, -4, MIN);
        Outside due = new Outside();
        int[] first = {MIN, -1, MAX, 0, 1};
        int[] last = {1, 2, 3, -4, MIN};
        System.arraycopy(first, 0, due.words, 0, 5);
        System.arraycopy(last, 0, due.words, 32763, 5);
        same("the first and the last words", due, house);
    }

    private void notOpen() {
        edges.terms(9, 27, "those that are not OPEN as 0; ");
        Bench bench = new Bench(5);
        Outside due = new Outside();
        bench.call(1, 0x8000, 256);
        due.regions[0] = new int[] {1, 0x8000, 256};
        due.enclaves[0] = new int[] {1, 1};
        bench.house.secret(0, 0, 255);
        bench.house.secret(0, 255, 255);
        same("a secret", due, bench.house);
        bench.house.poke(0x8100, 1, 0, 0, 0, 0);
        bench.house.poke(0x7ffc - 16, 0, 0, 0, 0, 2);
        due.words[0x8100 / 4] = 1;
        due.words[0x7ffc / 4] = 2;
        same("those beside it", due, bench.house);
        bench.call(9, 0, 0x8100, 256);
        due.regions[1] = new int[] {2, 0x8100, 256};
        same("SHARED ones are OPEN", due, bench.house);
        bench.call(4, 0, 0);
        due.enclaves[0][0] = 2;
        bench.call(20, 0, 0x8200, 256);
        due.regions[2] = new int[] {4, 0x8200, 256};
        same("EXTRA", due, bench.house);
    }

    private void harts() {
        edges.terms(9, 27, "for each hart x1 to x31, PC, MODE, 1 if it WAITS else 0, the THREAD that runs there (or "
            + "-1), ");
        for (int hart = 0; hart < 2; hart++) {
            Bench bench = new Bench(5);
            EnclaveHouse house = bench.house;
            Outside due = new Outside();
            for (int n = 0; n < 32; n++) {
                house.setRegister(hart, n, n % 2 == 0 ? MIN + n : -n);
                due.x[hart][n] = n % 2 == 0 ? MIN + n : -n;
            }
            same("registers", due, house);
            house.place(hart, MAX - 3, 0);
            due.pc[hart] = MAX - 3;
            due.mode[hart] = 0;
            same("PC and MODE", due, house);
            house.place(hart, -4, 1);
            due.pc[hart] = -4;
            due.mode[hart] = 1;
            same("PC below 0", due, house);
        }
        for (int hart = 0; hart < 2; hart++) {
            Bench bench = new Bench(5);
            EnclaveHouse house = bench.house;
            Outside due = new Outside();
            for (int i = 0; i < 2; i++) {
                house.poke(0x100 + 32 * i, i == hart ? Code.WAIT : Code.NOTHING, 0, 0, 0, 0);
                due.words[(0x100 + 32 * i) / 4] = i == hart ? Code.WAIT : Code.NOTHING;
                house.place(i, 0x100 + 32 * i, 1);
                due.pc[i] = 0x104 + 32 * i;
            }
            house.run(1);
            due.time = 1;
            due.waits[hart] = 1;
            same("hart " + hart + " WAITS", due, house);
            for (int i = 0; i < 12; i++) {
                if (i % 3 == 0) {
                    bench.call(1, 0x8000 + 256 * (i / 3), 256);
                }
                bench.call(3, i / 3, 0, 0);
            }
            bench.call(4, 3, 0);
            house.call(hart, 5, 11, 7, 7, 7);
            for (int i = 0; i < 4; i++) {
                due.regions[i] = new int[] {1, 0x8000 + 256 * i, 256};
                due.enclaves[i] = new int[] {i == 3 ? 2 : 1, 1};
            }
            for (int i = 0; i < 12; i++) {
                due.threads[i] = i == 11 ? 2 : 1;
            }
            due.waits[hart] = 0;
            due.thread[hart] = 11;
            same("THREAD 11 runs on hart " + hart, due, house);
        }
    }

    private void controls() {
        edges.terms(9, 27, "STATUS, ENABLED, TVEC, SCRATCH, EPC, CAUSE, TVAL, bit 1 of PENDING (1 or 0), COMPARE, "
            + "ATP, SLICE; ");
        for (int hart = 0; hart < 2; hart++) {
            EnclaveHouse house = new EnclaveHouse(5);
            Outside due = new Outside();
            for (int i = 0; i < CONTROLS.length; i++) {
                for (int number : new int[] {-1, 0x2a55aa5a + i}) {
                    house.setControl(hart, CONTROLS[i], number);
                    due.controls[hart][i] = i == 7 ? number >> 1 & 1 : number & MASKS[i];
                    same("hart " + hart + ", " + CONTROLS[i] + " of " + number, due, house);
                }
            }
            for (int slice : new int[] {1, 100000}) {
                house.call(hart, 19, slice, 0, 0, 0);
                due.controls[hart][10] = slice;
                same("hart " + hart + ", SLICE " + slice, due, house);
            }
            house.line(true);
            house.setControl(hart, 0x14d, 0);
            due.controls[hart][8] = 0;
            same("other bits of PENDING do not count", due, house);
        }
    }

    private void time() {
        edges.terms(9, 27, "TIME; ");
        EnclaveHouse house = new EnclaveHouse(5);
        house.poke(0, Code.jumping(0, 0), 0, 0, 0, 0);
        Outside due = new Outside();
        due.words[0] = Code.jumping(0, 0);
        for (int rounds : new int[] {1, 2000}) {
            house.run(rounds);
            due.time += rounds;
            same("TIME " + due.time, due, house);
        }
    }

    private void regions() {
        edges.terms(9, 27, "for each REGION 0 .. 11 its SORT (0: none, and nothing more of it), base, size; ");
        Bench bench = RegionEdges.twelveRegions();
        Outside due = new Outside();
        due.enclaves[0] = new int[] {1, 1};
        due.regions[0] = new int[] {1, 0x8000, 256};
        for (int i = 1; i < 12; i++) {
            due.regions[i] = new int[] {2, 0xa000 + 256 * i, 256};
        }
        same("twelve", due, bench.house);
        for (int i : new int[] {11, 1, 5}) {
            bench.call(11, i);
            due.regions[i] = new int[3];
            same("without REGION " + i, due, bench.house);
        }
    }

    private void enclaves() {
        edges.terms(9, 27, "for each enclave its state (0: none) and GENERATION; ");
        Bench bench = ThreadEdges.sixEnclaves();
        Outside due = new Outside();
        for (int i = 0; i < 6; i++) {
            due.enclaves[i] = new int[] {1, 1};
            due.regions[i] = new int[] {1, 0x8000 + 256 * i, 256};
        }
        same("six", due, bench.house);
        bench.call(4, 5, 0);
        bench.call(4, 0, 1);
        bench.call(7, 0);
        due.enclaves[5][0] = 2;
        due.enclaves[0][0] = 3;
        same("READY and STOPPED", due, bench.house);
        bench.call(8, 0);
        due.enclaves[0][0] = 0;
        due.regions[0] = new int[3];
        same("none, but its GENERATION", due, bench.house);
    }

    private void threads() {
        edges.terms(9, 27, "for each THREAD its state (0: none); ");
        Bench bench = new Bench(5);
        bench.call(1, 0x8000, 256);
        Outside due = new Outside();
        due.enclaves[0] = new int[] {1, 1};
        due.regions[0] = new int[] {1, 0x8000, 256};
        for (int i = 0; i < 3; i++) {
            bench.call(3, 0, 4 * i, 16 * i);
            due.threads[i] = 1;
            same("IDLE", due, bench.house);
        }
        bench.call(4, 0, 0);
        due.enclaves[0][0] = 2;
        bench.house.call(1, 5, 2, 3, 4, 5);
        due.threads[2] = 2;
        due.thread[1] = 2;
        same("RUNNING; what it is given does not count", due, bench.house);
    }

    private void console() {
        edges.terms(9, 27, "how many bytes the CONSOLE has, and these; ");
        EnclaveHouse house = new EnclaveHouse(5);
        Outside due = new Outside();
        for (int byteOf : new int[] {0, 255, 65}) {
            house.call(0, 12, byteOf, 0, 0, 0);
            due.console.add(byteOf);
            same("one more", due, house);
        }
    }

    private void disk() {
        edges.terms(9, 27, "all words of THE DISK; ");
        EnclaveHouse house = new EnclaveHouse(5);
        Outside due = new Outside();
        house.disk(0, 0, 1);
        house.disk(31, 255, 0x80);
        house.disk(1, 2, 0xfe);
        due.disk[0] = 1;
        due.disk[2047] = MIN;
        due.disk[64] = 0xfe0000;
        same("three bytes", due, house);
    }

    private void dmas() {
        edges.terms(9, 27, "how many DMAs wait, were done and not told, FAILED of these; ");
        Bench bench = new Bench(5);
        Outside due = new Outside();
        bench.house.poke(0, Code.jumping(0, 0), 0, 0, 0, 0);
        due.words[0] = Code.jumping(0, 0);
        bench.call(1, 0x8000, 256);
        due.enclaves[0] = new int[] {1, 1};
        due.regions[0] = new int[] {1, 0x8000, 256};
        int[] places = {0x400, 0x8000, 0x400, 0x8000};
        for (int place : places) {
            bench.call(14, 1, 31, place);
            due.waiting++;
            same("one more", due, bench.house);
        }
        bench.house.run(4);
        due.time = 4;
        for (int i = 0; i < 4; i++) {
            bench.house.run(1);
            due.time++;
            due.waiting--;
            due.done++;
            due.failed += i % 2;
            same("one done", due, bench.house);
        }
        bench.call(15);
        due.done = 0;
        due.failed = 0;
        same("told", due, bench.house);
    }

    private void path() {
        edges.terms(9, 27, "the enclave that has the PATH (or -1); ");
        long[] seen = new long[2];
        for (int claims = 0; claims < 2; claims++) {
            Bench bench = new Bench(5);
            bench.call(1, 0x7000, 256);
            int thread = bench.enclave(0x8000, 256, 0, new Code().set(17, claims == 1 ? 45 : 99).word(Code.CALL)
                .word(Code.jumping(0, 0)));
            bench.house.call(1, 5, thread, 0, 0, 0);
            bench.house.run(3);
            Outside due = new Outside();
            due.enclaves[0] = new int[] {1, 1};
            due.enclaves[1] = new int[] {2, 1};
            due.regions[0] = new int[] {1, 0x7000, 256};
            due.regions[1] = new int[] {1, 0x8000, 256};
            due.threads[0] = 2;
            due.thread[1] = 0;
            due.time = 3;
            due.path = claims == 1 ? 1 : -1;
            for (int i = 0; i < 5; i++) {
                due.words[0x1000 / 4 + i] = bench.house.word(0x1000 + 4 * i);
            }
            // Hart 0 went round in the trap at place 0, where there is no instruction.
            due.controls[0][0] = 256;
            due.controls[0][5] = 2;
            same("claims " + claims, due, bench.house);
            seen[claims] = bench.house.outside();
        }
        edges.is("it shows", false, seen[0] == seen[1]);
    }

    private void keys() {
        edges.terms(9, 27, "how many keys wait for the system, and these; ");
        EnclaveHouse house = new EnclaveHouse(5);
        Outside due = new Outside();
        for (int i = 0; i < 16; i++) {
            house.type(255 - i);
            due.keys.add(255 - i);
        }
        same("sixteen", due, house);
        house.type(1);
        same("one is lost", due, house);
        house.call(0, 21, 0, 0, 0, 0);
        due.keys.remove(0);
        same("one is taken", due, house);
        Bench bench = new Bench(5);
        new Agent(bench, 0x8000).ask(45);
        long before = bench.house.outside();
        bench.house.type(7);
        edges.is("a key on the PATH does not count", before, bench.house.outside());
    }

    private void off() {
        edges.terms(9, 27, "1 if the machine is OFF, else 0.");
        EnclaveHouse house = new EnclaveHouse(5);
        house.call(0, 18, 0, 0, 0, 0);
        Outside due = new Outside();
        due.off = 1;
        same("OFF", due, house);
    }

    private void withoutReservations() {
        edges.terms(9, 27, "(RESERVATIONS do not count.)");
        long[] seen = new long[2];
        for (int reserves = 0; reserves < 2; reserves++) {
            Steps steps = new Steps(reserves == 1 ? Code.inMemory(2, 0, 5, 0) : Code.NOTHING).set(5, 0x400).run(1);
            // The word itself is made the same again.
            steps.house.poke(Steps.AT, 0, 0, 0, 0, 0);
            seen[reserves] = steps.house.outside();
        }
        edges.is("with and without one", seen[0], seen[1]);
    }
}
