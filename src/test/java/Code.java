import java.util.ArrayList;
import java.util.List;

/** Writes instruction words one behind the other. */
final class Code {
    static final int CALL = 115;
    static final int BREAK = 1 << 20 | 115;
    static final int LEAVE_TRAP = 258 << 20 | 115;
    static final int WAIT = 261 << 20 | 115;
    static final int NOTHING = 19;

    private final List<Integer> words = new ArrayList<>();

    static int byRegister(int op, int d, int f, int a, int b, int g) {
        return op | d << 7 | f << 12 | a << 15 | b << 20 | g << 25;
    }

    static int byNumber(int op, int d, int f, int a, int number) {
        return op | d << 7 | f << 12 | a << 15 | (number & 0xfff) << 20;
    }

    static int storing(int f, int a, int b, int offset) {
        return 35 | (offset & 31) << 7 | f << 12 | a << 15 | b << 20 | (offset >> 5 & 127) << 25;
    }

    static int branching(int f, int a, int b, int offset) {
        return 99 | (offset >> 11 & 1) << 7 | (offset >> 1 & 15) << 8 | f << 12 | a << 15 | b << 20
            | (offset >> 5 & 63) << 25 | (offset >> 12 & 1) << 31;
    }

    static int jumping(int d, int offset) {
        return 111 | d << 7 | (offset >> 12 & 255) << 12 | (offset >> 11 & 1) << 20
            | (offset >> 1 & 1023) << 21 | (offset >> 20 & 1) << 31;
    }

    static int inMemory(int kind, int d, int a, int b) {
        return byRegister(47, d, 2, a, b, kind << 2);
    }

    static int control(int d, int f, int a, int number) {
        return byNumber(115, d, f, a, number);
    }

    Code word(int word) {
        words.add(word);
        return this;
    }

    /** x[d] is a number; always two words, so that places are easy to reckon. */
    Code set(int d, int number) {
        int low = number << 20 >> 20;
        word(55 | d << 7 | number - low);
        return word(byNumber(19, d, 0, d, low));
    }

    Code load(int f, int d, int a, int offset) {
        return word(byNumber(3, d, f, a, offset));
    }

    Code store(int f, int a, int b, int offset) {
        return word(storing(f, a, b, offset));
    }

    /** A CALL with p and q. */
    Code call(int f, int p, int q) {
        return set(10, p).set(11, q).set(17, f).word(CALL);
    }

    /** A CALL whose answer comes to a register of its own. */
    Code callTo(int d, int f, int p, int q) {
        return call(f, p, q).word(byNumber(19, d, 0, 10, 0));
    }

    Code exit(int value) {
        return call(32, value, 0);
    }

    int size() {
        return 4 * words.size();
    }

    void poke(EnclaveHouse house, int place) {
        for (int i = 0; i < words.size(); i += 5) {
            int[] five = new int[5];
            for (int k = 0; k < 5; k++) {
                five[k] = i + k < words.size() ? words.get(i + k) : NOTHING;
            }
            if (house.poke(place + 4 * i, five[0], five[1], five[2], five[3], five[4]) != 0) {
                throw new IllegalStateException("no place for the code");
            }
        }
    }
}
