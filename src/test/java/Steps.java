/** A house in which hart 0 does some words while hart 1 waits. */
final class Steps {
    static final int AT = 0x100;
    static final int TRAPPED = 0x800;
    static final int FIRST_TABLE = 0x2000;
    static final int SECOND_TABLE = 0x3000;
    /** V, R, W, X, A and D of an entry. */
    static final int ALL_OF_S = 0xcf;

    final EnclaveHouse house = new EnclaveHouse(1);

    Steps(int... words) {
        at(0x40, Code.WAIT, Code.jumping(0, -4));
        house.place(1, 0x40, 1);
        at(AT, words);
        house.place(0, AT, 1);
        house.setControl(0, 0x105, TRAPPED);
    }

    Steps at(int place, int... words) {
        for (int i = 0; i < words.length; i += 5) {
            int[] five = new int[5];
            System.arraycopy(words, i, five, 0, Math.min(5, words.length - i));
            house.poke(place + 4 * i, five[0], five[1], five[2], five[3], five[4]);
        }
        return this;
    }

    /** One word alone; those around it stay. */
    Steps oneAt(int place, int word) {
        house.poke(place, word, house.word(place + 4), house.word(place + 8), house.word(place + 12),
            house.word(place + 16));
        return this;
    }

    /** Pages on: page 0 is mapped as it is, for S alone, by the second table; other entries are 0. */
    Steps paged() {
        oneAt(FIRST_TABLE, SECOND_TABLE >> 2 | 1);
        oneAt(SECOND_TABLE, ALL_OF_S);
        return control(0x180, 1 << 31 | FIRST_TABLE >> 12);
    }

    /** The address of page n (below 1,024) has this entry. */
    Steps page(int n, int entry) {
        return oneAt(SECOND_TABLE + 4 * n, entry);
    }

    static int leaf(int place, int bits) {
        return place >>> 12 << 10 | bits;
    }

    Steps set(int n, int v) {
        house.setRegister(0, n, v);
        return this;
    }

    Steps control(int number, int v) {
        house.setControl(0, number, v);
        return this;
    }

    Steps from(int pc, int mode) {
        house.place(0, pc, mode);
        return this;
    }

    Steps run(int rounds) {
        house.run(rounds);
        return this;
    }

    int x(int n) {
        return house.register(0, n);
    }

    int control(int number) {
        return house.control(0, number);
    }

    int pc() {
        return house.count(14);
    }

    /** CAUSE and TVAL of the TRAP that came, or none. */
    String trap() {
        return pc() == TRAPPED ? control(0x142) + " " + control(0x143) : "none";
    }
}
