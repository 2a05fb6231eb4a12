/** Promise 14, section 2: what each instruction does, in S on hart 0. */
public final class InstructionTest {
    private static final int AT = 0x100;
    private static final int MIN = Integer.MIN_VALUE;
    private static final Check check = new Check("InstructionTest");

    public static void main(String[] args) {
        check.look(args);
        withNumbers();
        withRegisters();
        products();
        quotients();
        upperBits();
        jumps();
        branches();
        loads();
        stores();
        conditionalStores();
        inMemory();
        controls();
        specials();
        illegalOnes();
        check.end();
    }

    /** Does one word with x5 and x6 given, hart 1 waiting. */
    private static EnclaveHouse done(int word, int x5, int x6) {
        EnclaveHouse house = new EnclaveHouse(1);
        house.poke(AT, word, 0, 0, 0, 0);
        house.poke(0x40, Code.WAIT, 0, 0, 0, 0);
        house.place(0, AT, 1);
        house.place(1, 0x40, 1);
        house.setControl(0, 0x105, 0x800);
        house.setRegister(0, 5, x5);
        house.setRegister(0, 6, x6);
        house.setRegister(0, 7, 0x77);
        house.run(1);
        return house;
    }

    private static void gives(String what, int word, int x5, int x6, int due) {
        EnclaveHouse house = done(word, x5, x6);
        check.is(what + " of " + x5 + ", " + x6, due, house.register(0, 7));
        check.is(what + ": the PC", AT + 4, house.count(14));
    }

    private static void traps(String what, EnclaveHouse house, int cause, int value) {
        check.is(what + ": PC", 0x800, house.count(14));
        check.is(what + ": CAUSE", cause, house.control(0, 0x142));
        check.is(what + ": TVAL", value, house.control(0, 0x143));
        check.is(what + ": x7 stays", 0x77, house.register(0, 7));
    }

    private static void illegal(int word) {
        traps("illegal " + Integer.toHexString(word), done(word, 0x2000, 0), 2, word);
    }

    private static int number(int f, int number) {
        return Code.byNumber(19, 7, f, 5, number);
    }

    private static int register(int f, int g) {
        return Code.byRegister(51, 7, f, 5, 6, g);
    }

    private static void withNumbers() {
        check.terms(2, 14, "19: x[d] is, by f, 0: x[a] + I; 2: 1 if x[a] is less than I, else 0; 3: so U; 4: xor; "
            + "6: or; 7: and; 1, g 0: x[a] shifted left by b; 5, g 0: right, U; 5, g 32: right, with sign.");
        gives("sum", number(0, -5), 3, 0, -2);
        gives("sum", number(0, 2047), Integer.MAX_VALUE, 0, MIN + 2046);
        gives("less", number(2, -1), -2, 0, 1);
        gives("less", number(2, -2), -2, 0, 0);
        gives("less U", number(3, -1), 5, 0, 1);
        gives("less U", number(3, 5), -1, 0, 0);
        gives("xor", number(4, -1), 0x0f0f, 0, ~0x0f0f);
        gives("or", number(6, 0x70f), 0x10, 0, 0x71f);
        gives("and", number(7, -16), 0x12345678, 0, 0x12345670);
        gives("left", number(1, 31), 3, 0, MIN);
        gives("right U", number(5, 4), -1, 0, 0x0fffffff);
        gives("right", number(5, 4 | 32 << 5), -256, 0, -16);
        EnclaveHouse house = done(Code.byNumber(19, 0, 0, 5, 1), 7, 0);
        check.is("x0 stays 0", 0, house.register(0, 0));
    }

    private static void withRegisters() {
        check.terms(2, 14, "51: x[d] is of x[a], x[b], with g 0, by f 0: sum; 1: shifted left by the lowest five "
            + "bits of x[b]; 2: 1 if less; 3: so U; 4: xor; 5: so right, U; 6: or; 7: and; g 32, f 0: difference; "
            + "f 5: so right, with sign;");
        gives("sum", register(0, 0), Integer.MAX_VALUE, 1, MIN);
        gives("difference", register(0, 32), 3, 5, -2);
        gives("left", register(1, 0), 1, 33, 2);
        gives("less", register(2, 0), MIN, 0, 1);
        gives("less U", register(3, 0), MIN, 0, 0);
        gives("less U", register(3, 0), 0, MIN, 1);
        gives("less U", register(3, 0), -5, -5, 0);
        gives("less", register(2, 0), 6, 6, 0);
        gives("xor", register(4, 0), 12, 10, 6);
        gives("right U", register(5, 0), -1, 63, 1);
        gives("right", register(5, 32), MIN, 30, -2);
        gives("right", register(5, 32), MIN, 31, -1);
        gives("or", register(6, 0), 12, 10, 14);
        gives("and", register(7, 0), 12, 10, 8);
    }

    private static void products() {
        check.terms(2, 14, "g 1: 0: product; 1: upper 32 bits of the product; 2: of it, x[b] U; 3: of it, both U;");
        gives("product", register(0, 1), 0x10001, 0x10001, 0x20001);
        gives("upper", register(1, 1), -1, 1, -1);
        gives("upper", register(1, 1), MIN, MIN, 0x40000000);
        gives("upper, right U", register(2, 1), -1, -1, -1);
        gives("upper, right U", register(2, 1), MIN, -1, MIN);
        gives("upper U", register(3, 1), -1, -1, -2);
        gives("upper U", register(3, 1), MIN, 2, 1);
    }

    private static void quotients() {
        check.terms(2, 14, "4: quotient to 0; 5: U; 6: rest with the sign of x[a]; 7: rest U. (Quotient by 0: all "
            + "bits; rest by 0: x[a]; the least number by -1: itself, rest 0.)");
        gives("quotient", register(4, 1), -7, 2, -3);
        gives("quotient by 0", register(4, 1), 5, 0, -1);
        gives("the least by -1", register(4, 1), MIN, -1, MIN);
        gives("quotient U", register(5, 1), -7, 2, 0x7ffffffc);
        gives("quotient U by 0", register(5, 1), 5, 0, -1);
        gives("quotient U", register(5, 1), MIN, -1, 0);
        gives("rest", register(6, 1), -7, 2, -1);
        gives("rest", register(6, 1), 7, -2, 1);
        gives("rest by 0", register(6, 1), -7, 0, -7);
        gives("rest of the least by -1", register(6, 1), MIN, -1, 0);
        gives("rest U", register(7, 1), -7, 10, 9);
        gives("rest U by 0", register(7, 1), -7, 0, -7);
    }

    private static void upperBits() {
        check.terms(2, 14, "55: x[d] is H. 23: x[d] is PC + H.");
        gives("H", 55 | 7 << 7 | 0xabcde000, 0, 0, 0xabcde000);
        gives("PC + H", 23 | 7 << 7 | 0xfffff000, 0, 0, AT - 0x1000);
    }

    private static void goes(String what, int word, int x5, int x6, int due) {
        check.is(what, due, done(word, x5, x6).count(14));
    }

    private static void jumps() {
        check.terms(2, 14, "111: x[d] is PC + 4, on at PC + J. 103, f 0: on at x[a] + I with bit 0 cleared, x[d] is "
            + "PC + 4 (by the old x[a]).");
        EnclaveHouse house = done(Code.jumping(7, -8), 0, 0);
        check.is("J", AT - 8, house.count(14));
        check.is("the way back", AT + 4, house.register(0, 7));
        goes("J far", Code.jumping(0, 0xffffc), 0, 0, AT + 0xffffc);
        goes("J far back", Code.jumping(0, -0x100000), 0, 0, AT - 0x100000);
        goes("J with bit 11", Code.jumping(0, 0x800), 0, 0, AT + 0x800);
        traps("J to no multiple of 4", done(Code.jumping(7, 6), 0, 0), 0, AT + 6);
        goes("to a register's place, from x31", Code.byNumber(103, 31, 0, 5, 4), 0x2000, 0, 0x2004);
        goes("reserving by x31", Code.inMemory(2, 31, 31, 0), 0, 0, AT + 4);
        house = done(Code.byNumber(103, 5, 0, 5, 9), 0x2000, 0);
        check.is("to a register's place", 0x2008, house.count(14));
        check.is("the old one counted", AT + 4, house.register(0, 5));
        traps("to a register's place, no multiple of 4", done(Code.byNumber(103, 7, 0, 5, 3), 0x2000, 0), 0, 0x2002);
    }

    private static void branches() {
        check.terms(2, 14, "99: on at PC + B, if f 0: x[a] = x[b], 1: not, 4: less, 5: not, 6: less U, 7: not. A "
            + "place to go on at that is no multiple of 4 is exception 0 (x[d] stays).");
        int[][] given = {{0, 5, 5}, {1, 5, 6}, {4, -1, 0}, {5, 0, -1}, {5, 3, 3}, {6, 0, -1}, {7, -1, 0}, {7, 4, 4}};
        for (int[] one : given) {
            goes("branch " + one[0], Code.branching(one[0], 5, 6, -4096), one[1], one[2], AT - 4096);
            goes("branch " + one[0], Code.branching(one[0], 5, 6, 4092), one[1], one[2], AT + 4092);
            goes("branch not " + one[0], Code.branching(one[0] ^ 1, 5, 6, 8), one[1], one[2], AT + 4);
        }
        traps("branch to no multiple of 4", done(Code.branching(0, 5, 6, 6), 1, 1), 0, AT + 6);
        goes("no branch to no multiple of 4", Code.branching(1, 5, 6, 6), 1, 1, AT + 4);
    }

    private static void loads() {
        check.terms(2, 14, "3: x[d] is loaded from x[a] + I: f 0 a byte with sign, 1 two bytes with sign, 2 a word, "
            + "4 a byte U, 5 two bytes U.");
        int[] due = {-2, 0xfffff3fe, 0x8001f3fe, 0, 0xfe, 0xf3fe};
        for (int f : new int[] {0, 1, 2, 4, 5}) {
            EnclaveHouse house = new EnclaveHouse(1);
            house.poke(AT, Code.byNumber(3, 7, f, 5, -4), Code.byNumber(3, 8, f, 5, 0), 0, 0, 0);
            house.poke(0x2000, 0x8001f3fe, 0, 0, 0, 0);
            house.place(0, AT, 1);
            house.setRegister(0, 5, 0x2004);
            house.run(1);
            check.is("load " + f, due[f], house.register(0, 7));
        }
        EnclaveHouse house = new EnclaveHouse(1);
        house.poke(AT, Code.byNumber(3, 7, 1, 5, 2), Code.byNumber(3, 8, 0, 5, 3), Code.byNumber(3, 9, 4, 5, 1), 0, 0);
        house.poke(0x2000, 0x8001f3fe, 0, 0, 0, 0);
        house.place(0, AT, 1);
        house.setRegister(0, 5, 0x2000);
        house.run(3);
        check.is("the upper two bytes", 0xffff8001, house.register(0, 7));
        check.is("the upper byte", -128, house.register(0, 8));
        check.is("byte 1", 0xf3, house.register(0, 9));
        gives("the first word of memory", Code.byNumber(3, 7, 2, 5, 0), 0, 0, 0);
        gives("the last byte of memory", Code.byNumber(3, 7, 0, 5, 0), 131071, 0, 0);
        traps("two bytes at an odd address", done(Code.byNumber(3, 7, 1, 5, 1), 0x2000, 0), 4, 0x2001);
        traps("a word at no multiple of 4", done(Code.byNumber(3, 7, 2, 5, 2), 0x2000, 0), 4, 0x2002);
        traps("a byte behind memory", done(Code.byNumber(3, 7, 0, 5, 0), 131072, 0), 5, 131072);
        traps("a byte far off", done(Code.byNumber(3, 7, 4, 5, -1), 0, 0), 5, -1);
    }

    private static void stores() {
        check.terms(2, 14, "35: the lowest byte (f 0), two bytes (1), word (2) of x[b] is stored at x[a] + T.");
        int[] due = {0x11111144, 0x11113344, 0x11223344};
        for (int f = 0; f < 3; f++) {
            EnclaveHouse house = new EnclaveHouse(1);
            house.poke(AT, Code.storing(f, 5, 6, -2048), 0, 0, 0, 0);
            house.poke(0x2000, 0x11111111, 0x11111111, 0, 0, 0);
            house.place(0, AT, 1);
            house.setRegister(0, 5, 0x2800);
            house.setRegister(0, 6, 0x11223344);
            house.run(1);
            check.is("store " + f, due[f], house.word(0x2000));
            check.is("beside it", 0x11111111, house.word(0x2004));
        }
        EnclaveHouse house = done(Code.storing(1, 5, 6, 2), 0x2000, 0x1234);
        check.is("the upper two bytes", 0x12340000, house.word(0x2000));
        traps("two bytes at an odd address", done(Code.storing(1, 5, 6, 1), 0x2000, 0), 6, 0x2001);
        traps("a word at no multiple of 4", done(Code.storing(2, 5, 6, 2), 0x2000, 0), 6, 0x2002);
        traps("a word behind memory", done(Code.storing(2, 5, 6, 0), 131072, 0), 7, 131072);
    }

    private static EnclaveHouse reserving(int... between) {
        EnclaveHouse house = new EnclaveHouse(1);
        int[] words = new int[5];
        words[0] = Code.inMemory(2, 7, 5, 0);
        System.arraycopy(between, 0, words, 1, between.length);
        words[between.length + 1] = Code.inMemory(3, 8, 5, 6);
        house.poke(AT, words[0], words[1], words[2], words[3], words[4]);
        house.poke(0x2000, 41, 42, 43, 44, 45);
        house.poke(0x40, Code.WAIT, 0, 0, 0, 0);
        house.place(0, AT, 1);
        house.place(1, 0x40, 1);
        house.setRegister(0, 5, 0x2000);
        house.setRegister(0, 6, 99);
        house.setRegister(0, 8, -1);
        return house;
    }

    private static void conditionalStores() {
        check.terms(2, 14, "2, b 0: x[d] is loaded, and the hart's RESERVATION is that word (its place in MEMORY). "
            + "3: if the RESERVATION is that word x[b] is stored and x[d] is 0, else x[d] is 1; the hart has none "
            + "then.");
        check.terms(2, 14, "A RESERVATION is lost, too, when a byte of its word is stored by anybody (also by the "
            + "monitor, which makes bytes 0 or writes them, by LOAD, a device, poke()),");
        EnclaveHouse house = reserving();
        house.run(2);
        check.is("loaded", 41, house.register(0, 7));
        check.is("stored", 0, house.register(0, 8));
        check.is("the word", 99, house.word(0x2000));
        house = reserving(Code.inMemory(3, 9, 5, 0));
        house.run(3);
        check.is("the second one has no reservation", 1, house.register(0, 8));
        house = reserving(Code.inMemory(3, 9, 7, 0));
        house.poke(0x2000, 0x3000, 0, 0, 0, 0);
        house.run(3);
        check.is("it was tried elsewhere", 1, house.register(0, 9));
        check.is("so the reservation is gone", 1, house.register(0, 8));
        house = reserving(Code.storing(0, 5, 0, 3));
        house.run(3);
        check.is("a byte of it was stored", 1, house.register(0, 8));
        check.is("the word stayed", 41, house.word(0x2000));
        house = reserving(Code.storing(0, 5, 0, 4));
        house.run(3);
        check.is("a byte beside it was stored", 0, house.register(0, 8));
        house = reserving();
        house.run(1);
        house.poke(0x1ff0, 1, 1, 1, 1, 1);
        house.run(1);
        check.is("it was poked", 1, house.register(0, 8));
        house = reserving();
        house.run(1);
        house.call(0, 1, 0x2000, 256, 0, 0);
        house.call(0, 8, 0, 0, 0, 0);
        house.run(1);
        check.is("the monitor made it 0", 1, house.register(0, 8));
        for (int beside : new int[] {0x1f00, 0x2100}) {
            house = reserving();
            house.run(1);
            house.call(0, 1, beside, 256, 0, 0);
            house.run(1);
            check.is("the monitor made others 0", 0, house.register(0, 8));
        }
        house = reserving();
        house.setRegister(0, 5, 0x2100);
        house.run(1);
        house.call(0, 1, 0x2000, 256, 0, 0);
        house.run(1);
        check.is("right behind what the monitor made 0", 0, house.register(0, 8));
        house = reserving();
        house.run(1);
        house.call(0, 1, 0x8000, 256, 0, 0);
        house.call(0, 9, 0, 0x2000, 256, 0);
        house.run(1);
        check.is("sharing makes nothing 0", 0, house.register(0, 8));
        house = reserving();
        house.run(1);
        house.boot(0);
        house.poke(AT, Code.inMemory(3, 8, 5, 6), 0, 0, 0, 0);
        house.setRegister(0, 5, 0x2000);
        house.place(0, AT, 1);
        house.run(1);
        check.is("boot leaves none", 1, house.register(0, 8));
        traps("3 is a store, also where nothing is stored", done(Code.inMemory(3, 7, 5, 6), 131072, 0), 7, 131072);
        traps("3 at no multiple of 4", done(Code.inMemory(3, 7, 5, 6), 0x2002, 0), 6, 0x2002);
        traps("2 at no multiple of 4", done(Code.inMemory(2, 7, 5, 0), 0x2001, 0), 4, 0x2001);
        traps("2 behind memory", done(Code.inMemory(2, 7, 5, 0), 131072, 0), 5, 131072);
    }

    private static void inMemory() {
        check.terms(2, 14, "Others: x[d] is loaded, and what is stored is, of that and x[b], 1: x[b]; 0: the sum; "
            + "4: xor; 8: or; 12: and; 16: the lesser; 20: the greater; 24: the lesser U; 28: the greater U.");
        int[][] due = {
            {1, 10, -3, -3}, {0, 10, -3, 7}, {4, 12, 10, 6}, {8, 12, 10, 14}, {12, 12, 10, 8}, {16, 10, -3, -3},
            {16, -3, 10, -3}, {20, 10, -3, 10}, {20, -3, 10, 10}, {24, 10, -3, 10}, {24, -3, 10, 10}, {28, 10, -3, -3},
            {28, -3, 10, -3}
        };
        for (int[] one : due) {
            EnclaveHouse house = new EnclaveHouse(1);
            house.poke(AT, Code.inMemory(one[0], 6, 5, 6) | 3 << 25, 0, 0, 0, 0);
            house.poke(0x2000, one[1], 0, 0, 0, 0);
            house.place(0, AT, 1);
            house.setRegister(0, 5, 0x2000);
            house.setRegister(0, 6, one[2]);
            house.run(1);
            check.is("in memory " + one[0] + ": the word", one[3], house.word(0x2000));
            check.is("in memory " + one[0] + ": what it was", one[1], house.register(0, 6));
        }
        EnclaveHouse atZero = done(Code.inMemory(1, 7, 0, 6), 0, 44);
        check.is("in memory at place 0", 44, atZero.word(0));
        atZero = done(Code.inMemory(28, 7, 5, 6), 0x2000, -3);
        check.is("the greater U", -3, atZero.word(0x2000));
        traps("in memory, at no multiple of 4", done(Code.inMemory(0, 7, 5, 6), 0x2002, 0), 6, 0x2002);
        traps("in memory, behind it", done(Code.inMemory(0, 7, 5, 6), 131072, 0), 7, 131072);
    }

    private static EnclaveHouse ofScratch(int f, int a) {
        EnclaveHouse house = new EnclaveHouse(1);
        house.poke(AT, Code.control(7, f, a, 0x140), 0, 0, 0, 0);
        house.place(0, AT, 1);
        house.setControl(0, 0x140, 12);
        house.setRegister(0, 5, 10);
        house.run(1);
        check.is("what it was", 12, house.register(0, 7));
        return house;
    }

    private static void controls() {
        check.terms(2, 14, "115, f 1, 2, 3, 5, 6, 7: control register bits 31 .. 20 (U); the number is x[a], for f "
            + "above 4 the field a: f 1, 5 it is written; 2, 6 the register's bits that are in it are set; 3, 7 "
            + "cleared; x[d] gets what it was. For 2, 3, 6, 7 with field a 0 nothing is written; else it is a "
            + "write.");
        int[][] due = {{1, 10}, {2, 14}, {3, 4}, {5, 5}, {6, 13}, {7, 8}};
        for (int[] one : due) {
            check.is("control by " + one[0], one[1], ofScratch(one[0], 5).control(0, 0x140));
        }
        check.is("written with x0", 0, ofScratch(1, 0).control(0, 0x140));
        check.is("written with 0", 0, ofScratch(5, 0).control(0, 0x140));
        for (int f : new int[] {2, 3, 6, 7}) {
            check.is("nothing is written", 12, ofScratch(f, 0).control(0, 0x140));
        }
        gives("TIME", Code.control(7, 2, 0, 0xc01), 0, 0, 0);
        gives("TIME", Code.control(7, 7, 0, 0xc01), 0, 0, 0);
        for (int f : new int[] {1, 5}) {
            illegal(Code.control(7, f, 0, 0xc01));
            illegal(Code.control(7, f, 0, 0xf14));
        }
        // x8 is 0, and it is a write all the same.
        illegal(Code.control(7, 2, 8, 0xf14));
        illegal(Code.control(7, 2, 0, 0x101));
        illegal(Code.control(7, 4, 0, 0x140));
    }

    private static void specials() {
        check.terms(2, 14, "15, f 0 or 1: nothing.");
        check.terms(2, 14, "1: exception 3. 258: in S: on at EPC, the MODE is PP, IE becomes PIE, PIE 1, PP 0. 261: "
            + "in S: the hart WAITS. f 0, d 0 and g 9, a and b any: in S nothing.");
        traps("break", done(Code.BREAK, 0, 0), 3, AT);
        check.is("fence", AT + 4, done(15, 0, 0).count(14));
        check.is("fence", AT + 4, done(15 | 1 << 12 | 31 << 7, 0, 0).count(14));
        check.is("g 9", AT + 4, done(Code.byRegister(115, 0, 0, 31, 31, 9), 0, 0).count(14));
        EnclaveHouse house = done(Code.WAIT, 0, 0);
        check.is("it waits", 1, house.count(10));
        check.is("behind", AT + 4, house.count(14));
        house = new EnclaveHouse(1);
        house.poke(AT, Code.LEAVE_TRAP, 0, 0, 0, 0);
        house.place(0, AT, 1);
        house.setControl(0, 0x141, 0x300);
        house.setControl(0, 0x100, 32 | 1 << 18);
        house.run(1);
        check.is("on at EPC", 0x300, house.count(14));
        check.is("the mode is PP", 0, house.count(12));
        check.is("STATUS", 2 | 32 | 1 << 18, house.control(0, 0x100));
        house.place(0, AT, 1);
        house.setControl(0, 0x100, 2 | 256);
        house.run(1);
        check.is("the mode is PP", 1, house.count(12));
        check.is("STATUS", 32, house.control(0, 0x100));
    }

    private static void illegalOnes() {
        check.terms(2, 14, "What is not named here is ILLEGAL: exception 2.");
        illegal(0);
        illegal(-1);
        illegal(Code.byNumber(103, 7, 1, 5, 0));
        illegal(Code.byNumber(103, 7, 4, 5, 0));
        illegal(Code.inMemory(2, 7, 5, 16));
        illegal(Code.branching(2, 5, 6, 8));
        illegal(Code.branching(3, 5, 6, 8));
        for (int f : new int[] {3, 6, 7}) {
            illegal(Code.byNumber(3, 7, f, 5, 0));
            illegal(Code.storing(f, 5, 6, 0));
        }
        illegal(15 | 2 << 12);
        illegal(number(1, 32));
        illegal(number(1, 32 << 5));
        illegal(number(5, 33 << 5));
        illegal(number(5, 1 << 5));
        for (int f : new int[] {1, 2, 3, 4, 6, 7}) {
            illegal(register(f, 32));
        }
        illegal(register(0, 2));
        illegal(Code.byRegister(47, 7, 3, 5, 0, 0));
        illegal(Code.inMemory(2, 7, 5, 1));
        for (int kind : new int[] {5, 6, 7, 9, 17, 31}) {
            illegal(Code.inMemory(kind, 7, 5, 6));
        }
        illegal(Code.CALL | 1 << 7);
        illegal(Code.CALL | 1 << 15);
        illegal(Code.BREAK | 1 << 7);
        illegal(Code.LEAVE_TRAP | 1 << 15);
        illegal(2 << 20 | 115);
        illegal(Code.byRegister(115, 1, 0, 0, 0, 9));
        illegal(Code.byRegister(115, 0, 0, 0, 0, 10));
    }
}
