/** The document's Terms, section 2 INSTRUCTIONS, but for op 47 and op 115. */
final class InstructionEdges {
    private static final int MIN = Integer.MIN_VALUE;
    private static final int MAX = Integer.MAX_VALUE;
    private static final int DATA = 0x400;

    private final Edges edges;

    private InstructionEdges(Edges itsEdges) {
        edges = itsEdges;
    }

    static void all(Edges edges) {
        InstructionEdges of = new InstructionEdges(edges);
        of.fields();
        of.numbersInWords();
        of.registersAsBefore();
        of.illegalOps();
        of.illegalFields();
        of.upperBits();
        of.jumps();
        of.jumpsByRegister();
        of.branches();
        of.noMultipleOfFour();
        of.loads();
        of.stores();
        of.fences();
        of.withNumbers();
        of.withRegisters();
        of.products();
        of.quotients();
        of.byZero();
    }

    /** x7 behind a word, with x5 and x6 given. */
    private void gives(String what, int word, int x5, int x6, int due) {
        Steps steps = new Steps(word).set(5, x5).set(6, x6).set(7, 0x77).run(1);
        edges.is(what + " of " + x5 + ", " + x6, due + ", " + (Steps.AT + 4), steps.x(7) + ", " + steps.pc());
    }

    private void illegal(int word) {
        edges.is("ILLEGAL " + Integer.toHexString(word), "2 " + word, new Steps(word).set(5, DATA).run(1).trap());
    }

    private void fields() {
        edges.terms(2, 14, "2 INSTRUCTIONS. A word has fields: op (bits 6 .. 0), d (11 .. 7), f (14 .. 12), a (19 .. "
            + "15), b (24 .. 20), g (31 .. 25);");
        for (int n : new int[] {1, 2, 4, 8, 16, 31}) {
            edges.is("d is " + n, 40, new Steps(Code.byRegister(51, n, 0, 5, 6, 0)).set(5, 30).set(6, 10).run(1).x(n));
            edges.is("a is " + n, 50, new Steps(Code.byRegister(51, 7, 0, n, 0, 0)).set(n, 50).run(1).x(7));
            edges.is("b is " + n, 60, new Steps(Code.byRegister(51, 7, 0, 0, n, 0)).set(n, 60).run(1).x(7));
        }
        edges.is("all at once", 10, new Steps(Code.byRegister(51, 31, 0, 31, 31, 0)).set(31, 5).run(1).x(31));
    }

    private void numbersInWords() {
        edges.terms(2, 14, "I is bits 31 .. 20, with sign;");
        for (int number : new int[] {-2048, -1, 0, 1, 1024, 2047}) {
            gives("I " + number, Code.byNumber(19, 7, 0, 5, number), 0, 0, number);
        }
        edges.terms(2, 14, "T is g and d, with sign;");
        for (int number : new int[] {-2048, -1, 0, 1, 16, 31, 32, 1024, 2047}) {
            Steps steps = new Steps(Code.storing(0, 5, 6, number)).set(5, 0x1400).set(6, 0x55).run(1);
            int place = 0x1400 + number;
            edges.is("T " + number, 0x55, steps.house.word(place & ~3) >>> 8 * (place & 3));
        }
        edges.terms(2, 14, "B is bit 31, 7, 30 .. 25, 11 .. 8 (bits 12, 11, 10 .. 5, 4 .. 1), with sign;");
        for (int number : new int[] {-4096, -4, 0, 4, 8, 16, 32, 64, 128, 256, 512, 1024, 2048, 4092}) {
            edges.is("B " + number, Steps.AT + number, new Steps(Code.branching(0, 0, 0, number)).run(1).pc());
        }
        for (int n : new int[] {1, 2, 4, 8, 16, 31}) {
            edges.is("a and b " + n + " are not of it", Steps.AT + 64, new Steps(Code.branching(0, n, n, 64)).run(1)
                .pc());
        }
        edges.terms(2, 14, "H is bits 31 .. 12 and twelve 0;");
        for (int number : new int[] {0xfffff000, 0x1000, MIN, 0x7ffff000, 0}) {
            gives("H " + number, 55 | 7 << 7 | number, 0, 0, number);
        }
        edges.terms(2, 14, "J is bit 31, 19 .. 12, 20, 30 .. 21 (bits 20, 19 .. 12, 11, 10 .. 1), with sign.");
        for (int number = 4; number < 1 << 20; number <<= 1) {
            edges.is("J " + number, Steps.AT + number, new Steps(Code.jumping(0, number)).run(1).pc());
        }
        for (int number : new int[] {-1048576, -4, 0, 1048572}) {
            edges.is("J " + number, Steps.AT + number, new Steps(Code.jumping(0, number)).run(1).pc());
        }
    }

    private void registersAsBefore() {
        edges.terms(2, 14, "x[n] is a register as it was before, where it is read; what is put to x0 is lost.");
        edges.is("x5 is x5 and x5", 14, new Steps(Code.byRegister(51, 5, 0, 5, 5, 0)).set(5, 7).run(1).x(5));
        edges.is("x5 is loaded from x5", 99, new Steps(Code.byNumber(3, 5, 2, 5, 0)).at(DATA, 99).set(5, DATA).run(1)
            .x(5));
        Steps steps = new Steps(Code.inMemory(1, 5, 5, 5)).at(DATA, 99).set(5, DATA).run(1);
        edges.are("x5 is swapped with the word at x5", "99 1024", steps.x(5), steps.house.word(DATA));
        steps = new Steps(Code.control(5, 1, 5, 0x140)).control(0x140, 3).set(5, 8).run(1);
        edges.are("x5 is swapped with SCRATCH", "3 8", steps.x(5), steps.control(0x140));
        int[] toNone = {
            55 | 0x1000, 23 | 0x1000, Code.jumping(0, 4), Code.byNumber(103, 0, 0, 5, 0), Code.byNumber(3, 0, 2, 5, 0),
            Code.byNumber(19, 0, 0, 5, 1), Code.byRegister(51, 0, 0, 5, 5, 0), Code.inMemory(0, 0, 5, 5),
            Code.inMemory(2, 0, 5, 0), Code.inMemory(3, 0, 5, 5), Code.control(0, 2, 0, 0x140)
        };
        for (int word : toNone) {
            steps = new Steps(word, Code.byRegister(51, 7, 0, 0, 0, 0)).at(DATA, 99).control(0x140, 3).set(5, DATA)
                .set(7, 1).run(1);
            edges.is("x0 behind " + Integer.toHexString(word), 0, steps.x(0));
            edges.is("no TRAP of it", "none", steps.trap());
        }
        steps = new Steps(Code.byNumber(19, 0, 0, 5, 1), Code.byRegister(51, 7, 0, 0, 0, 0)).set(5, 7).set(7, 1).run(2);
        edges.is("x0 read behind that", 0, steps.x(7));
    }

    private void illegalOps() {
        edges.terms(2, 14, "What is not named here is ILLEGAL: exception 2.");
        int[] named = {3, 15, 19, 23, 35, 51, 55, 99, 103, 111};
        for (int op = 0; op < 128; op++) {
            boolean known = false;
            for (int one : named) {
                known |= one == op;
            }
            // With f 0 and a d that is not 0, op 47 and op 115 are not named.
            // With b 4 jumps go to a multiple of 4.
            int word = Code.byRegister(op, 7, 0, 5, 4, 0);
            String trap = new Steps(word).set(5, DATA).run(1).trap();
            edges.is("op " + op, known ? "none" : "2 " + word, trap);
        }
    }

    private void illegalFields() {
        edges.terms(2, 14, "ILLEGAL: exception 2.");
        for (int f = 0; f < 8; f++) {
            if (f > 0) {
                illegal(Code.byNumber(103, 7, f, 5, 0));
            }
            if (f == 2 || f == 3) {
                illegal(Code.branching(f, 5, 5, 8));
            }
            if (f == 3 || f > 5) {
                illegal(Code.byNumber(3, 7, f, 5, 0));
            }
            if (f > 2) {
                illegal(Code.storing(f, 5, 6, 0));
            }
            if (f > 1) {
                illegal(Code.byNumber(15, 0, f, 0, 0));
            }
            for (int g = 0; g < 128; g++) {
                illegalByG(f, g);
            }
        }
    }

    private void illegalByG(int f, int g) {
        if (f == 1 && g != 0 || f == 5 && g != 0 && g != 32) {
            illegal(Code.byRegister(19, 7, f, 5, 6, g));
        }
        boolean known = g == 0 || g == 1 || g == 32 && (f == 0 || f == 5);
        int word = Code.byRegister(51, 7, f, 5, 6, g);
        if (!known) {
            illegal(word);
        } else {
            edges.is("op 51, f " + f + ", g " + g, "none", new Steps(word).run(1).trap());
        }
    }

    private void upperBits() {
        edges.terms(2, 14, "55: x[d] is H. 23: x[d] is PC + H.");
        gives("H", 55 | 7 << 7 | 0xfffff000, 0, 0, 0xfffff000);
        gives("PC + H", 23 | 7 << 7 | 0x7ffff000, 0, 0, 0x7ffff100);
        gives("PC + H below 0", 23 | 7 << 7 | 0xfffff000, 0, 0, Steps.AT - 0x1000);
        edges.is("it wraps around", 0xff0, new Steps().at(0x1ff0, 23 | 7 << 7 | 0xfffff000).from(0x1ff0, 1).run(1)
            .x(7));
    }

    private void jumps() {
        edges.terms(2, 14, "111: x[d] is PC + 4, on at PC + J.");
        Steps steps = new Steps(Code.jumping(7, 8)).run(1);
        edges.are("x7, PC", "260 264", steps.x(7), steps.pc());
        steps = new Steps(Code.jumping(7, -1048576)).run(1);
        edges.are("below 0 it wraps around", "260 " + (256 - 1048576), steps.x(7), steps.pc());
        edges.is("onto itself", Steps.AT, new Steps(Code.jumping(0, 0)).run(5).pc());
    }

    private void jumpsByRegister() {
        edges.terms(2, 14, "103, f 0: on at x[a] + I with bit 0 cleared, x[d] is PC + 4 (by the old x[a]).");
        int[][] given = {{0x2000, 0, 0x2000}, {0x2001, 0, 0x2000}, {0x2000, -2048, 0x1800}, {0x2000, 2045, 0x27fc},
            {-1, 1, 0},
            {4, -4, 0}, {0, -4, -4}, {MAX, 1, MIN}, {MIN, -3, MAX - 3}};
        for (int[] one : given) {
            Steps steps = new Steps(Code.byNumber(103, 7, 0, 5, one[1])).set(5, one[0]).run(1);
            edges.are("at " + one[0] + " and " + one[1], one[2] + " 260", steps.pc(), steps.x(7));
        }
        Steps steps = new Steps(Code.byNumber(103, 5, 0, 5, 4)).set(5, 0x2000).run(1);
        edges.are("d is a", "8196 260", steps.pc(), steps.x(5));
    }

    private void branches() {
        edges.terms(2, 14, "99: on at PC + B, if f 0: x[a] = x[b], 1: not, 4: less, 5: not, 6: less U, 7: not.");
        int[][] pairs = {{0, 0}, {5, 5}, {0, -1}, {-1, 0}, {MIN, MAX}, {MAX, MIN}, {MIN, 0}, {0, MIN}, {MIN, MIN},
            {1, 2}, {2, 1},
            {-1, -2}, {-2, -1}};
        for (int[] pair : pairs) {
            long a = pair[0] & 0xffffffffL;
            long b = pair[1] & 0xffffffffL;
            boolean[] goes = {pair[0] == pair[1], pair[0] != pair[1], false, false, pair[0] < pair[1],
                pair[0] >= pair[1], a < b, a >= b};
            for (int f : new int[] {0, 1, 4, 5, 6, 7}) {
                Steps steps = new Steps(Code.branching(f, 5, 6, -8)).set(5, pair[0]).set(6, pair[1]).run(1);
                edges.is("f " + f + " of " + pair[0] + ", " + pair[1], Steps.AT + (goes[f] ? -8 : 4), steps.pc());
            }
        }
    }

    private void noMultipleOfFour() {
        edges.terms(2, 14, "A place to go on at that is no multiple of 4 is exception 0 (x[d] stays).");
        int[] words = {Code.jumping(7, 2), Code.jumping(7, -2), Code.byNumber(103, 7, 0, 5, 2),
            Code.byNumber(103, 7, 0, 5, 3),
            Code.byNumber(103, 7, 0, 5, -1), Code.branching(0, 0, 0, 2), Code.branching(1, 5, 0, -4094)};
        int[] places = {258, 254, 0x402, 0x402, 0x3fe, 258, 256 - 4094};
        for (int i = 0; i < words.length; i++) {
            Steps steps = new Steps(words[i]).set(5, DATA).set(7, 0x77).run(1);
            edges.is("to " + places[i], "0 " + places[i] + ", 119", steps.trap() + ", " + steps.x(7));
        }
        edges.is("bit 0 is cleared before", "none", new Steps(Code.byNumber(103, 7, 0, 5, 1)).set(5, DATA).run(1)
            .trap());
        edges.is("a branch that is not gone", Steps.AT + 4, new Steps(Code.branching(1, 0, 0, 2)).run(1).pc());
    }

    private void loads() {
        edges.terms(2, 14, "3: x[d] is loaded from x[a] + I: f 0 a byte with sign, 1 two bytes with sign, 2 a word, "
            + "4 a byte U, 5 two bytes U.");
        int[] words = {0, -1, MIN, MAX, 0x80, 0x7f, 0x8000, 0x7fff, 0xff00};
        for (int word : words) {
            int[] due = {(byte) word, (short) word, word, 0, word & 255, word & 65535};
            for (int f : new int[] {0, 1, 2, 4, 5}) {
                Steps steps = new Steps(Code.byNumber(3, 7, f, 5, -4)).at(DATA, word, 0x55555555).set(5, DATA + 4)
                    .run(1);
                edges.is("f " + f + " of " + word, due[f], steps.x(7));
            }
        }
        for (int f : new int[] {0, 1, 2, 4, 5}) {
            int n = 1 << (f & 3);
            Steps steps = new Steps(Code.byNumber(3, 7, f, 5, 0)).at(131052, 0, 0, 0, 0, 0x01010101).set(5, 131072 - n)
                .run(1);
            edges.is("f " + f + " at the end of MEMORY", 0x01010101 >>> 32 - 8 * n, steps.x(7));
            edges.is("f " + f + " behind it", "5 131072", new Steps(Code.byNumber(3, 7, f, 5, 0)).set(5, 131072).run(1)
                .trap());
            steps = new Steps(Code.byNumber(3, 7, f, 5, 4)).at(0, 0x01010101).set(5, -4).run(1);
            edges.is("f " + f + ": the address wraps around", 0x01010101 >>> 32 - 8 * n, steps.x(7));
        }
        edges.is("byte 3 of a word", -128, new Steps(Code.byNumber(3, 7, 0, 5, 3)).at(DATA, MIN).set(5, DATA).run(1)
            .x(7));
        edges.is("its upper two bytes", -32768, new Steps(Code.byNumber(3, 7, 1, 5, 2)).at(DATA, MIN).set(5, DATA)
            .run(1).x(7));
    }

    private void stores() {
        edges.terms(2, 14, "35: the lowest byte (f 0), two bytes (1), word (2) of x[b] is stored at x[a] + T.");
        int[] masks = {0xff, 0xffff, -1};
        for (int f = 0; f < 3; f++) {
            for (int offset = 0; offset < 4; offset += 1 << f) {
                Steps steps = new Steps(Code.storing(f, 5, 6, offset)).at(DATA - 4, -1, -1, -1).set(5, DATA)
                    .set(6, 0x81726354).run(1);
                int mask = masks[f] << 8 * offset;
                edges.is("f " + f + " at " + offset, 0x81726354 << 8 * offset & mask | ~mask, steps.house.word(DATA));
                edges.are("those beside it", "-1 -1", steps.house.word(DATA - 4), steps.house.word(DATA + 4));
            }
            Steps steps = new Steps(Code.storing(f, 5, 6, 0)).set(5, 131072 - (1 << f)).set(6, -1).run(1);
            edges.is("f " + f + " at the end of MEMORY", masks[f] << 32 - (8 << f), steps.house.word(131068));
            edges.is("f " + f + " behind it", "7 131072", new Steps(Code.storing(f, 5, 6, 0)).set(5, 131072).run(1)
                .trap());
            steps = new Steps(Code.storing(f, 5, 6, 4)).set(5, -4).set(6, 0x11111111).run(1);
            edges.is("f " + f + ": the address wraps around", 0x11111111 & masks[f], steps.house.word(0));
        }
    }

    private void fences() {
        edges.terms(2, 14, "15, f 0 or 1: nothing.");
        for (int word : new int[] {15, 15 | 1 << 12, 15 | 31 << 7 | 0xfff << 20 | 31 << 15,
            15 | 7 << 7 | 1 << 12 | 5 << 15}) {
            gives("nothing", word, 3, 4, 0x77);
        }
        illegal(15 | 2 << 12);
        illegal(15 | 7 << 12);
    }

    private void withNumbers() {
        edges.terms(2, 14, "19: x[d] is, by f, 0: x[a] + I; 2: 1 if x[a] is less than I, else 0; 3: so U; 4: xor; 6: "
            + "or; 7: and; 1, g 0: x[a] shifted left by b; 5, g 0: right, U; 5, g 32: right, with sign.");
        int[][] given = {
            {0, -1, MIN, MAX}, {0, 2047, MAX, MIN + 2046}, {2, -2048, -2048, 0}, {2, -2048, -2049, 1},
                {2, -2048, MIN, 1},
            {2, 2047, MAX, 0}, {3, -1, -2, 1}, {3, -1, -1, 0}, {3, 0, 0, 0}, {3, 1, 0, 1}, {3, -2048, MAX, 1},
            {3, 2047, MIN, 0},
            {4, -1, 0x5a5a, ~0x5a5a}, {4, 0, 7, 7}, {6, -2048, 1, -2047}, {6, 0, MIN, MIN}, {7, -1, MIN, MIN},
            {7, 0, -1, 0},
            {1, 0, -1, -1}, {1, 31, 1, MIN}, {1, 31, 2, 0}, {5, 0, MIN, MIN}, {5, 31, MIN, 1}, {5, 31, MAX, 0},
            {5, 1024, MIN, MIN}, {5, 1024 + 31, MIN, -1}, {5, 1024 + 31, MAX, 0}, {5, 1024 + 1, -3, -2}
        };
        for (int[] one : given) {
            gives("f " + one[0] + ", I " + one[1], Code.byNumber(19, 7, one[0], 5, one[1]), one[2], 0, one[3]);
        }
    }

    private void withRegisters() {
        edges.terms(2, 14, "51: x[d] is of x[a], x[b], with g 0, by f 0: sum; 1: shifted left by the lowest five "
            + "bits of x[b]; 2: 1 if less; 3: so U; 4: xor; 5: so right, U; 6: or; 7: and; g 32, f 0: difference; f "
            + "5: so right, with sign;");
        int[][] given = {
            {0, 0, MAX, 1, MIN}, {0, 0, MIN, MIN, 0}, {0, 1, 1, 31, MIN}, {0, 1, 1, 32, 1}, {0, 1, 1, -1, MIN},
                {0, 1, -1, 0, -1},
            {0, 2, MIN, MAX, 1}, {0, 2, MAX, MIN, 0}, {0, 2, 4, 4, 0}, {0, 3, MIN, MAX, 0}, {0, 3, 0, -1, 1},
            {0, 3, -1, -1, 0},
            {0, 4, -1, MIN, MAX}, {0, 5, MIN, 31, 1}, {0, 5, MIN, 32, MIN}, {0, 5, -1, 33, MAX},
            {0, 6, MIN, 1, MIN + 1},
            {0, 7, -1, MIN, MIN}, {32, 0, MIN, 1, MAX}, {32, 0, 0, MIN, MIN}, {32, 0, 3, 5, -2}, {32, 5, MIN, 31, -1},
            {32, 5, MIN, 32, MIN}, {32, 5, MAX, 63, 0}, {32, 5, -8, 1, -4}
        };
        for (int[] one : given) {
            gives("g " + one[0] + ", f " + one[1], Code.byRegister(51, 7, one[1], 5, 6, one[0]), one[2], one[3],
                one[4]);
        }
    }

    private void products() {
        edges.terms(2, 14, "g 1: 0: product; 1: upper 32 bits of the product; 2: of it, x[b] U; 3: of it, both U;");
        int[] numbers = {0, 1, -1, MIN, MAX, 0x10000, 0xffff0001};
        for (int a : numbers) {
            for (int b : numbers) {
                java.math.BigInteger signedA = java.math.BigInteger.valueOf(a);
                java.math.BigInteger signedB = java.math.BigInteger.valueOf(b);
                java.math.BigInteger plainA = java.math.BigInteger.valueOf(a & 0xffffffffL);
                java.math.BigInteger plainB = java.math.BigInteger.valueOf(b & 0xffffffffL);
                gives("product", Code.byRegister(51, 7, 0, 5, 6, 1), a, b, signedA.multiply(signedB).intValue());
                gives("upper", Code.byRegister(51, 7, 1, 5, 6, 1), a, b, signedA.multiply(signedB).shiftRight(32)
                    .intValue());
                gives("upper, x[b] U", Code.byRegister(51, 7, 2, 5, 6, 1), a, b, signedA.multiply(plainB)
                    .shiftRight(32).intValue());
                gives("upper, both U", Code.byRegister(51, 7, 3, 5, 6, 1), a, b, plainA.multiply(plainB).shiftRight(32)
                    .intValue());
            }
        }
    }

    private void quotients() {
        edges.terms(2, 14, "4: quotient to 0; 5: U; 6: rest with the sign of x[a]; 7: rest U.");
        int[][] given = {
            {4, 7, 2, 3}, {4, -7, 2, -3}, {4, 7, -2, -3}, {4, -7, -2, 3}, {4, MIN, 1, MIN}, {4, MAX, -1, -MAX},
                {4, 1, MIN, 0},
            {5, -1, 1, -1}, {5, -1, -1, 1}, {5, MIN, 2, 1 << 30}, {5, MAX, MIN, 0}, {5, -1, MIN, 1}, {6, 7, 2, 1},
            {6, -7, 2, -1},
            {6, 7, -2, 1}, {6, -7, -2, -1}, {6, MIN, 3, -2}, {6, 5, MIN, 5}, {7, -1, MIN, MAX}, {7, MAX, -1, MAX},
            {7, -1, 16, 15},
            {7, 0, 1, 0}
        };
        for (int[] one : given) {
            gives("f " + one[0], Code.byRegister(51, 7, one[0], 5, 6, 1), one[1], one[2], one[3]);
        }
    }

    private void byZero() {
        edges.terms(2, 14, "(Quotient by 0: all bits; rest by 0: x[a]; the least number by -1: itself, rest 0.)");
        for (int x : new int[] {0, 5, -5, MIN, MAX}) {
            gives("quotient by 0", Code.byRegister(51, 7, 4, 5, 6, 1), x, 0, -1);
            gives("quotient U by 0", Code.byRegister(51, 7, 5, 5, 6, 1), x, 0, -1);
            gives("rest by 0", Code.byRegister(51, 7, 6, 5, 6, 1), x, 0, x);
            gives("rest U by 0", Code.byRegister(51, 7, 7, 5, 6, 1), x, 0, x);
        }
        gives("the least by -1", Code.byRegister(51, 7, 4, 5, 6, 1), MIN, -1, MIN);
        gives("its rest", Code.byRegister(51, 7, 6, 5, 6, 1), MIN, -1, 0);
        gives("so U", Code.byRegister(51, 7, 5, 5, 6, 1), MIN, -1, 0);
        gives("its rest U", Code.byRegister(51, 7, 7, 5, 6, 1), MIN, -1, MIN);
    }
}
