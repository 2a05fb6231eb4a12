import java.nio.ByteBuffer;
import java.nio.ByteOrder;
import java.security.GeneralSecurityException;
import java.security.MessageDigest;
import javax.crypto.Mac;
import javax.crypto.spec.SecretKeySpec;

/** A house with what tests do again and again on it; digests come from the Java library. */
final class Bench {
    static final int BAD = -1;
    static final int STATE = -2;
    static final int BUSY = -3;
    static final int OVERLAP = -4;
    static final int FULL = -5;
    static final int DENIED = -6;
    private static final int STAGE = 0x1000;

    final EnclaveHouse house;
    /** The LOG as it is behind the CALLS that this bench made; those that code makes do not come into it. */
    byte[] log = new byte[32];

    Bench(int seed) {
        house = new EnclaveHouse(seed);
    }

    int call(int f, int... given) {
        int[] four = new int[4];
        System.arraycopy(given, 0, four, 0, given.length);
        int answer = house.call(0, f, four[0], four[1], four[2], four[3]);
        if (answer >= 0 && (f >= 1 && f <= 11 || f == 19 || f == 20)) {
            log = sha(log, numbers(f, four[0], four[1], four[2], four[3]));
        }
        return answer;
    }

    /** An enclave with this code at its offset 0 and one THREAD from there on, of which the number is the answer. */
    int enclave(int base, int size, int flags, Code code) {
        int enclave = call(1, base, size);
        code.poke(house, STAGE);
        for (int page = 0; page * 256 < code.size(); page++) {
            call(2, enclave, page, STAGE + 256 * page);
        }
        int thread = call(3, enclave, 0, size);
        call(4, enclave, flags);
        return thread;
    }

    /** The system's code at a place, and hart 0 there in S. */
    void system(int place, Code code) {
        code.poke(house, place);
        house.place(0, place, 1);
    }

    /** ENTERS a THREAD on hart 0 and runs until it ceases. */
    void enter(int thread, int x10, int x11) {
        call(5, thread, x10, x11);
        runThread();
    }

    void runThread() {
        for (int i = 0; i < 2000 && house.count(8) >= 0; i++) {
            house.run(1);
        }
    }

    /** Hart 1 waits, so that only hart 0 does anything. */
    void stillHart1() {
        house.poke(0x1fff0 - 0xf0, Code.WAIT, Code.jumping(0, -4), 0, 0, 0);
        house.place(1, 0x1fff0 - 0xf0, 1);
    }

    /** One call a word, as an object has 512 of them. */
    byte[] innerBytes(int place, int n) {
        byte[] bytes = new byte[n];
        int word = 0;
        for (int i = 0; i < n; i++) {
            int shift = 8 * (place + i & 3);
            word = i == 0 || shift == 0 ? house.inner(place + i & ~3) : word;
            bytes[i] = (byte) (word >>> shift);
        }
        return bytes;
    }

    String event(int i) {
        StringBuilder text = new StringBuilder();
        for (int what = 0; what < 8; what++) {
            text.append(what == 0 ? "" : " ").append(house.event(i, what));
        }
        return text.toString();
    }

    /** Sort, p, q, r of an EVENT. */
    String brief(int i) {
        return house.event(i, 0) + ": " + house.event(i, 5) + " " + house.event(i, 6) + " " + house.event(i, 7);
    }

    static byte[] numbers(int... given) {
        ByteBuffer bytes = ByteBuffer.allocate(4 * given.length).order(ByteOrder.LITTLE_ENDIAN);
        for (int number : given) {
            bytes.putInt(number);
        }
        return bytes.array();
    }

    static byte[] join(byte[]... parts) {
        int n = 0;
        for (byte[] part : parts) {
            n += part.length;
        }
        ByteBuffer bytes = ByteBuffer.allocate(n);
        for (byte[] part : parts) {
            bytes.put(part);
        }
        return bytes.array();
    }

    static byte[] sha(byte[]... parts) {
        try {
            return MessageDigest.getInstance("SHA-256").digest(join(parts));
        } catch (GeneralSecurityException e) {
            throw new IllegalStateException(e);
        }
    }

    static byte[] mac(byte[] key, byte[]... parts) {
        try {
            Mac mac = Mac.getInstance("HmacSHA256");
            mac.init(new SecretKeySpec(key, "HmacSHA256"));
            return mac.doFinal(join(parts));
        } catch (GeneralSecurityException e) {
            throw new IllegalStateException(e);
        }
    }

    static byte[] root(int seed, int version) {
        return mac(sha(numbers(seed)), numbers(version));
    }

    static String hex(byte[] bytes) {
        StringBuilder text = new StringBuilder();
        for (byte one : bytes) {
            text.append(Character.forDigit(one >> 4 & 15, 16)).append(Character.forDigit(one & 15, 16));
        }
        return text.toString();
    }

    /** Word k of a digest, its highest byte being the earliest. */
    static int word(byte[] digest, int k) {
        return ByteBuffer.wrap(digest).getInt(4 * k);
    }
}
