import java.util.Arrays;

/**
 * A machine of two harts with an untrusted system on it and a monitor beneath,
 * which gives regions of memory to enclaves and lets nobody else in.
 *
 * <p>All rows are made when the object is made and used again by every call, so
 * that a run of calls makes no objects of its own.
 */
public final class EnclaveHouse {
    public static final int NONE = -1;

    private static final int BAD = -1;
    private static final int STATE = -2;
    private static final int BUSY = -3;
    private static final int OVERLAP = -4;
    private static final int FULL = -5;
    private static final int DENIED = -6;

    private static final int BYTES = 131072;
    private static final int HARTS = 2;
    private static final int ENCLAVES = 6;
    private static final int FIBRES = 12;
    private static final int REGIONS = 12;
    private static final int MOST_ROUNDS = 2000;
    private static final int MOST_SLICE = 100000;
    private static final int NO_KEY = 256;

    private static final int PRIVATE = 1;
    private static final int SHARED = 2;
    private static final int LINK = 3;
    private static final int EXTRA = 4;

    private static final int LOADING = 1;
    private static final int READY = 2;
    private static final int STOPPED = 3;

    private static final int IDLE = 1;
    private static final int RUNNING = 2;
    private static final int INTERRUPTED = 3;
    private static final int YIELDED = 4;
    private static final int DEAD = 5;

    private static final int MAY_LOAD = 1;
    private static final int MAY_STORE = 2;
    private static final int MAY_FETCH = 4;

    private static final int EVENT_EXIT = 1;
    private static final int EVENT_YIELD = 2;
    private static final int EVENT_FAULT = 3;
    private static final int EVENT_STORE = 4;
    private static final int EVENT_ACCEPT = 5;
    private static final int EVENT_SEND = 6;
    private static final int EVENT_RECEIVE = 7;
    private static final int EVENT_COUNT = 8;
    private static final int EVENT_PATH = 9;

    private static final int BIT_IE = 2;
    private static final int BIT_PIE = 32;
    private static final int BIT_PP = 256;
    private static final int BIT_SUM = 1 << 18;
    private static final int BIT_MXR = 1 << 19;

    private static final int CONTROL_STATUS = 0x100;
    private static final int CONTROL_ENABLED = 0x104;
    private static final int CONTROL_TVEC = 0x105;
    private static final int CONTROL_SCRATCH = 0x140;
    private static final int CONTROL_EPC = 0x141;
    private static final int CONTROL_CAUSE = 0x142;
    private static final int CONTROL_TVAL = 0x143;
    private static final int CONTROL_PENDING = 0x144;
    private static final int CONTROL_COMPARE = 0x14d;
    private static final int CONTROL_ATP = 0x180;
    private static final int CONTROL_TIME = 0xc01;
    private static final int CONTROL_NUMBER = 0xf14;

    private final House house;
    private final SystemCalls systemCalls;
    private final Processor processor;

    public EnclaveHouse(int seed) {
        house = new House(seed);
        systemCalls = new SystemCalls(house);
        processor = new Processor(house, systemCalls);
    }

    public int boot(int version) {
        int had = house.enclaveCount();
        house.restart(version);
        return had;
    }

    public int poke(int place, int a, int b, int c, int d, int e) {
        if ((place & 3) != 0 || !house.memory.areOpen(place, 20)) {
            return NONE;
        }
        house.memory.store(place, a, 4);
        house.memory.store(place + 4, b, 4);
        house.memory.store(place + 8, c, 4);
        house.memory.store(place + 12, d, 4);
        house.memory.store(place + 16, e, 4);
        return 0;
    }

    public int word(int place) {
        return (place & 3) == 0 && house.memory.isOpen(place) ? house.memory.wordAt(place) : 0;
    }

    public int inner(int place) {
        return (place & 3) == 0 ? house.memory.wordAt(place) : 0;
    }

    public int secret(int enclave, int offset, int value) {
        if (!house.hasEnclave(enclave) || offset < 0 || offset >= house.sizeOf(enclave)) {
            return NONE;
        }
        if (value < 0 || value > 255) {
            return NONE;
        }
        int place = house.baseOf(enclave) + offset;
        int was = house.memory.byteAt(place);
        house.memory.change(place, value, 1);
        return was;
    }

    public int setRegister(int hart, int n, int v) {
        int was = registerOrZero(hart, n);
        if (isHart(hart) && n > 0 && n < 32) {
            house.harts[hart].x[n] = v;
        }
        return was;
    }

    public int register(int hart, int n) {
        return registerOrZero(hart, n);
    }

    public int inside(int thread, int n) {
        if (!house.hasFibre(thread) || n < 0 || n > 32) {
            return 0;
        }
        Fibre fibre = house.fibres[thread];
        return n == 32 ? fibre.pc : fibre.x[n];
    }

    public int place(int hart, int pc, int mode) {
        if (!isHart(hart) || mode < 0 || mode > 1 || (pc & 3) != 0) {
            return NONE;
        }
        Hart on = house.harts[hart];
        on.pc = pc;
        on.mode = mode;
        on.waits = false;
        return 0;
    }

    public int setControl(int hart, int number, int v) {
        if (!isHart(hart) || !Hart.maySystemUse(number, true)) {
            return NONE;
        }
        house.harts[hart].writeControl(number, v);
        return 0;
    }

    public int control(int hart, int number) {
        return isHart(hart) ? house.harts[hart].readControl(number, house.devices) : 0;
    }

    public int call(int hart, int f, int p, int q, int r, int s) {
        if (house.off || !isHart(hart) || house.harts[hart].fibre != NONE) {
            return BAD;
        }
        return systemCalls.serve(house.harts[hart], f, p, q, r, s);
    }

    public int run(int rounds) {
        if (rounds < 0 || rounds > MOST_ROUNDS) {
            return NONE;
        }
        for (int done = 0; done < rounds; done++) {
            if (house.off) {
                return done;
            }
            for (int hart = 0; hart < HARTS && !house.off; hart++) {
                processor.step(hart);
            }
            if (!house.off) {
                house.devices.endRound(house.memory);
            }
        }
        return rounds;
    }

    public int type(int key) {
        if (key < 0 || key > 255) {
            return NONE;
        }
        boolean onPath = house.devices.pathOwner != NONE;
        Row keys = onPath ? house.devices.pathKeys : house.devices.systemKeys;
        if (!keys.add(key)) {
            return NONE;
        }
        return onPath ? 1 : 0;
    }

    public int panel(int i) {
        return house.devices.panel.at(i);
    }

    public boolean line(boolean on) {
        boolean was = house.devices.line;
        house.devices.line = on;
        return was;
    }

    public int enclave(int enclave, int what) {
        if (enclave < 0 || enclave >= ENCLAVES) {
            return NONE;
        }
        Enclave of = house.enclaves[enclave];
        if (what == 0) {
            return of.state;
        }
        if (what == 5) {
            return of.generation;
        }
        if (of.state == 0) {
            return NONE;
        }
        switch (what) {
            case 1: return house.baseOf(enclave);
            case 2: return house.sizeOf(enclave);
            case 3: return of.flags;
            case 4: return of.fibres;
            case 6: return of.hasMail ? 1 : 0;
            case 7: return of.asked;
            default: return NONE;
        }
    }

    public int thread(int thread, int what) {
        if (thread < 0 || thread >= FIBRES) {
            return NONE;
        }
        Fibre of = house.fibres[thread];
        if (what == 0) {
            return of.state;
        }
        if (of.state == 0) {
            return NONE;
        }
        switch (what) {
            case 1: return of.enclave;
            case 2: return of.hart;
            case 3: return of.entry;
            case 4: return of.stack;
            default: return NONE;
        }
    }

    public int region(int region, int what) {
        Memory memory = house.memory;
        if (region < 0 || region >= REGIONS) {
            return NONE;
        }
        if (what == 0) {
            return memory.sort[region];
        }
        if (memory.sort[region] == 0) {
            return NONE;
        }
        switch (what) {
            case 1: return memory.base[region];
            case 2: return memory.size[region];
            case 3: return memory.first[region];
            case 4: return memory.second[region];
            case 5: return memory.accepted[region];
            default: return NONE;
        }
    }

    public int entry(int hart, int i, int what) {
        if (!isHart(hart) || i < 0 || what < 0 || what > 2) {
            return NONE;
        }
        int fibre = house.harts[hart].fibre;
        if (house.hasFibre(fibre)) {
            return house.memory.entryOfEnclave(house.fibres[fibre].enclave, i, what);
        }
        return house.memory.entryOfSystem(i, what);
    }

    public int event(int i, int what) {
        return house.eventPart(i, what);
    }

    public int console(int i) {
        return house.devices.console.at(i);
    }

    public int disk(int sector, int k, int v) {
        if (sector < 0 || sector > 31 || k < 0 || k > 255 || v < -1 || v > 255) {
            return NONE;
        }
        return house.devices.swapDiskByte(sector * 256 + k, v);
    }

    public int digest(int place, int n, int k) {
        if (n < 0 || n > 4096 || k < 0 || k > 7 || place < 0 || place > BYTES - n) {
            return 0;
        }
        Sha sha = house.sha;
        sha.begin();
        for (int i = 0; i < n; i++) {
            sha.feedByte(house.memory.openByteAt(place + i));
        }
        sha.end(house.scratch);
        return house.scratch[k];
    }

    public boolean genuine(int place) {
        if (place < 0 || place > BYTES - 128) {
            return false;
        }
        for (int i = 0; i < 32; i++) {
            int packed = 0;
            for (int k = 0; k < 4; k++) {
                packed = packed << 8 | house.memory.openByteAt(place + 4 * i + k);
            }
            house.report[i] = packed;
        }
        house.sealReport(house.scratch);
        return house.bears(house.scratch);
    }

    public long outside() {
        return house.survey();
    }

    public int count(int what) {
        Devices devices = house.devices;
        switch (what) {
            case 0: return devices.time;
            case 1: return house.off ? 1 : 0;
            case 2: return house.enclaveCount();
            case 3: return house.memory.regionCount();
            case 4: return house.fibreCount();
            case 5: return house.eventCount;
            case 6: return devices.console.size;
            case 7: return devices.waiting;
            case 16: return house.counterCount;
            case 17: return devices.done;
            case 18: return devices.failed;
            case 19: return devices.systemKeys.size;
            case 20: return devices.pathOwner;
            case 21: return devices.pathKeys.size;
            case 22: return devices.panel.size;
            default: return what >= 8 && what <= 15 ? countOfHart(what) : NONE;
        }
    }

    private int countOfHart(int what) {
        Hart hart = house.harts[what & 1];
        switch (what >> 1) {
            case 4: return hart.fibre;
            case 5: return hart.waits ? 1 : 0;
            case 6: return hart.mode;
            default: return hart.pc;
        }
    }

    private int registerOrZero(int hart, int n) {
        return isHart(hart) && n >= 0 && n < 32 ? house.harts[hart].x[n] : 0;
    }

    private static boolean isHart(int hart) {
        return hart >= 0 && hart < HARTS;
    }

    /** Less, as without sign. */
    private static boolean isBelow(int left, int right) {
        return (left ^ 0x80000000) < (right ^ 0x80000000);
    }

    /**
     * SHA-256 and HMAC as published. A digest is a row of eight words, the highest byte of each
     * being the earliest.
     */
    private static final class Sha {
        private static final int[] FIRST_STATE = {
            0x6a09e667, 0xbb67ae85, 0x3c6ef372, 0xa54ff53a, 0x510e527f, 0x9b05688c, 0x1f83d9ab, 0x5be0cd19
        };
        private static final int[] ROUND_WORDS = {
            0x428a2f98, 0x71374491, 0xb5c0fbcf, 0xe9b5dba5, 0x3956c25b, 0x59f111f1, 0x923f82a4, 0xab1c5ed5,
            0xd807aa98, 0x12835b01, 0x243185be, 0x550c7dc3, 0x72be5d74, 0x80deb1fe, 0x9bdc06a7, 0xc19bf174,
            0xe49b69c1, 0xefbe4786, 0x0fc19dc6, 0x240ca1cc, 0x2de92c6f, 0x4a7484aa, 0x5cb0a9dc, 0x76f988da,
            0x983e5152, 0xa831c66d, 0xb00327c8, 0xbf597fc7, 0xc6e00bf3, 0xd5a79147, 0x06ca6351, 0x14292967,
            0x27b70a85, 0x2e1b2138, 0x4d2c6dfc, 0x53380d13, 0x650a7354, 0x766a0abb, 0x81c2c92e, 0x92722c85,
            0xa2bfe8a1, 0xa81a664b, 0xc24b8b70, 0xc76c51a3, 0xd192e819, 0xd6990624, 0xf40e3585, 0x106aa070,
            0x19a4c116, 0x1e376c08, 0x2748774c, 0x34b0bcb5, 0x391c0cb3, 0x4ed8aa4a, 0x5b9cca4f, 0x682e6ff3,
            0x748f82ee, 0x78a5636f, 0x84c87814, 0x8cc70208, 0x90befffa, 0xa4506ceb, 0xbef9a3f7, 0xc67178f2
        };
        private static final int INNER_PAD = 0x36363636;
        private static final int OUTER_PAD = 0x5c5c5c5c;

        private final int[] state = new int[8];
        /** The first sixteen words are the block that is being fed. */
        private final int[] schedule = new int[64];
        private final int[] innerDigest = new int[8];
        private int length;

        void begin() {
            System.arraycopy(FIRST_STATE, 0, state, 0, 8);
            length = 0;
        }

        void feedByte(int value) {
            int at = length & 63;
            int word = at >> 2;
            int before = (at & 3) == 0 ? 0 : schedule[word];
            schedule[word] = before | (value & 255) << 24 - 8 * (at & 3);
            length++;
            if ((length & 63) == 0) {
                compress();
            }
        }

        /** Feeds four bytes; whoever feeds words feeds no single bytes before them. */
        void feedWord(int value) {
            schedule[length >> 2 & 15] = value;
            length += 4;
            if ((length & 63) == 0) {
                compress();
            }
        }

        void feedNumber(int number) {
            schedule[length >> 2 & 15] = flip(number);
            length += 4;
            if ((length & 63) == 0) {
                compress();
            }
        }

        void feedWords(int[] words, int n) {
            for (int i = 0; i < n && i < words.length; i++) {
                feedWord(words[i]);
            }
        }

        void end(int[] out) {
            int at = length & 63;
            int word = at >> 2;
            int before = (at & 3) == 0 ? 0 : schedule[word];
            schedule[word] = before | 0x80 << 24 - 8 * (at & 3);
            clearBlockFrom(word + 1);
            if (word > 13) {
                compress();
                clearBlockFrom(0);
            }
            schedule[14] = length >>> 29;
            schedule[15] = length << 3;
            compress();
            for (int i = 0; i < 8 && i < out.length; i++) {
                out[i] = state[i];
            }
        }

        void beginKeyed(int[] key) {
            begin();
            feedPaddedKey(key, INNER_PAD);
        }

        void endKeyed(int[] key, int[] out) {
            end(innerDigest);
            begin();
            feedPaddedKey(key, OUTER_PAD);
            // Eight words do not fill a block, so they can be put there at once.
            System.arraycopy(innerDigest, 0, schedule, 0, 8);
            length += 32;
            end(out);
        }

        private void feedPaddedKey(int[] key, int pad) {
            for (int i = 0; i < 16; i++) {
                schedule[i] = i < 8 && i < key.length ? key[i] ^ pad : pad;
            }
            length += 64;
            compress();
        }

        private void clearBlockFrom(int word) {
            for (int i = word; i >= 0 && i < 16; i++) {
                schedule[i] = 0;
            }
        }

        private void compress() {
            for (int i = 16; i < 64; i++) {
                int early = schedule[i - 15];
                int late = schedule[i - 2];
                int one = (early >>> 7 | early << 25) ^ (early >>> 18 | early << 14) ^ early >>> 3;
                int two = (late >>> 17 | late << 15) ^ (late >>> 19 | late << 13) ^ late >>> 10;
                schedule[i] = schedule[i - 16] + one + schedule[i - 7] + two;
            }
            int a = state[0];
            int b = state[1];
            int c = state[2];
            int d = state[3];
            int e = state[4];
            int f = state[5];
            int g = state[6];
            int h = state[7];
            for (int i = 0; i < 64; i++) {
                int high = (e >>> 6 | e << 26) ^ (e >>> 11 | e << 21) ^ (e >>> 25 | e << 7);
                int one = h + high + (e & f ^ ~e & g) + ROUND_WORDS[i] + schedule[i];
                int low = (a >>> 2 | a << 30) ^ (a >>> 13 | a << 19) ^ (a >>> 22 | a << 10);
                int two = low + (a & b ^ a & c ^ b & c);
                h = g;
                g = f;
                f = e;
                e = d + one;
                d = c;
                c = b;
                b = a;
                a = one + two;
            }
            state[0] += a;
            state[1] += b;
            state[2] += c;
            state[3] += d;
            state[4] += e;
            state[5] += f;
            state[6] += g;
            state[7] += h;
        }

        /** A number's four bytes in the other order. */
        static int flip(int number) {
            return number << 24 | (number & 0xff00) << 8 | number >>> 8 & 0xff00 | number >>> 24;
        }
    }

    /** MEMORY, its REGIONS, and the RESERVATIONS that stores take away. */
    private static final class Memory {
        private static final int PAGE_SHIFT = 8;
        private static final int PAGES = BYTES >> PAGE_SHIFT;

        final int[] sort = new int[REGIONS];
        final int[] base = new int[REGIONS];
        final int[] size = new int[REGIONS];
        final int[] first = new int[REGIONS];
        final int[] second = new int[REGIONS];
        final int[] accepted = new int[REGIONS];
        private final int[] words = new int[BYTES / 4];
        /** No two REGIONS share 256 bytes, so one number for each 256 bytes tells whose they are. */
        private final int[] pageRegion = new int[PAGES];
        private final int[] reserved = new int[HARTS];

        void clear() {
            Arrays.fill(words, 0);
            Arrays.fill(pageRegion, NONE);
            Arrays.fill(sort, 0);
            Arrays.fill(reserved, NONE);
        }

        int wordAt(int place) {
            return place >= 0 && place < BYTES ? words[place >> 2] : 0;
        }

        int byteAt(int place) {
            return wordAt(place) >>> 8 * (place & 3) & 255;
        }

        int openByteAt(int place) {
            return isOpen(place) ? byteAt(place) : 0;
        }

        boolean isOpen(long place) {
            if (place < 0 || place >= BYTES) {
                return false;
            }
            int region = pageRegion[(int) place >> PAGE_SHIFT];
            return region < 0 || sort[region] == SHARED;
        }

        boolean areOpen(int place, int n) {
            if (place < 0 || n <= 0 || n > BYTES - place) {
                return false;
            }
            int last = place + n - 1 >> PAGE_SHIFT;
            for (int page = place >> PAGE_SHIFT; page <= last; page++) {
                if (!isOpen(page << PAGE_SHIFT)) {
                    return false;
                }
            }
            return true;
        }

        /**
         * The RIGHTS of an enclave's THREADS, or of the system (NONE), at a place. REGIONS have no byte in
         * common, so the first ENTRY that has a byte is the only one that says anything of it.
         */
        int rightsAt(long place, int enclave) {
            if (enclave == NONE) {
                return isOpen(place) ? 7 : 0;
            }
            if (place < 0 || place >= BYTES) {
                return 0;
            }
            int region = pageRegion[(int) place >> PAGE_SHIFT];
            return region < 0 ? 0 : rightsIn(region, enclave);
        }

        private int rightsIn(int region, int enclave) {
            int side = sideOf(region, enclave);
            if (sort[region] == PRIVATE) {
                return side != 0 ? 7 : 0;
            }
            if ((accepted[region] & side) == 0) {
                return 0;
            }
            return sort[region] == EXTRA ? 7 : MAY_LOAD | MAY_STORE;
        }

        /** 1: the REGION's first enclave, 2: the other one, 0: neither. */
        int sideOf(int region, int enclave) {
            if (first[region] == enclave) {
                return 1;
            }
            return second[region] == enclave ? 2 : 0;
        }

        boolean tellsOfStores(int place) {
            int region = place >= 0 && place < BYTES ? pageRegion[place >> PAGE_SHIFT] : NONE;
            return region >= 0 && (sort[region] == SHARED || sort[region] == LINK);
        }

        /** Changes 1, 2 or 4 bytes within one WORD; RESERVATIONS stay. */
        void change(int place, int value, int n) {
            if (place < 0 || place >= BYTES) {
                return;
            }
            int shift = 8 * (place & 3);
            int mask = n == 4 ? -1 : (n == 2 ? 0xffff : 0xff) << shift;
            words[place >> 2] = words[place >> 2] & ~mask | value << shift & mask;
        }

        void store(int place, int value, int n) {
            change(place, value, n);
            for (int i = 0; i < HARTS; i++) {
                if (reserved[i] == place >> 2) {
                    reserved[i] = NONE;
                }
            }
        }

        void wipe(int from, int n) {
            int behind = from + n >> 2;
            for (int i = from >> 2; i >= 0 && i < behind && i < words.length; i++) {
                words[i] = 0;
            }
            for (int i = 0; i < HARTS; i++) {
                if (reserved[i] >= from >> 2 && reserved[i] < behind) {
                    reserved[i] = NONE;
                }
            }
        }

        void reserve(int hart, int place) {
            reserved[hart] = place >> 2;
        }

        void unreserve(int hart) {
            reserved[hart] = NONE;
        }

        boolean isReserved(int hart, int place) {
            return reserved[hart] == place >> 2;
        }

        static boolean isSpan(int from, int n) {
            if (n < 256 || n > 32768 || (n & n - 1) != 0) {
                return false;
            }
            return from >= 0 && from <= BYTES - n && (from & n - 1) == 0;
        }

        boolean overlaps(int from, int n) {
            for (int page = from >> PAGE_SHIFT; page < from + n >> PAGE_SHIFT; page++) {
                if (page < 0 || page >= PAGES || pageRegion[page] != NONE) {
                    return true;
                }
            }
            return false;
        }

        int leastFreeRegion() {
            for (int i = 0; i < REGIONS; i++) {
                if (sort[i] == 0) {
                    return i;
                }
            }
            return NONE;
        }

        int regionCount() {
            int n = 0;
            for (int i = 0; i < REGIONS; i++) {
                n += sort[i] != 0 ? 1 : 0;
            }
            return n;
        }

        /** Makes a REGION of a SPAN; nobody ACCEPTED it, and its bytes are 0 unless it is SHARED. */
        void give(int region, int itsSort, int from, int n, int enclave, int other) {
            sort[region] = itsSort;
            base[region] = from;
            size[region] = n;
            first[region] = enclave;
            second[region] = other;
            accepted[region] = 0;
            markPages(region, region);
            if (itsSort != SHARED) {
                wipe(from, n);
            }
        }

        /** A REGION is no more; its bytes become 0 unless it is SHARED. */
        void takeBack(int region) {
            if (sort[region] != SHARED) {
                wipe(base[region], size[region]);
            }
            markPages(region, NONE);
            sort[region] = 0;
        }

        private void markPages(int region, int mark) {
            int from = base[region] >> PAGE_SHIFT;
            int behind = from + (size[region] >> PAGE_SHIFT);
            for (int page = from; page < behind && page < PAGES; page++) {
                pageRegion[page] = mark;
            }
        }

        int entryOfSystem(int i, int what) {
            int before = 0;
            for (int region = 0; region < REGIONS; region++) {
                if (sort[region] != 0 && sort[region] != SHARED) {
                    if (before == i) {
                        return entryPart(region, what, 0);
                    }
                    before++;
                }
            }
            if (before != i) {
                return NONE;
            }
            return what == 0 ? 0 : what == 1 ? BYTES : 7;
        }

        int entryOfEnclave(int enclave, int i, int what) {
            int before = 1;
            for (int region = 0; region < REGIONS; region++) {
                if (sort[region] != 0 && rightsIn(region, enclave) != 0) {
                    boolean own = sort[region] == PRIVATE;
                    if (i == (own ? 0 : before)) {
                        return entryPart(region, what, rightsIn(region, enclave));
                    }
                    before += own ? 0 : 1;
                }
            }
            return NONE;
        }

        private int entryPart(int region, int what, int rights) {
            return what == 0 ? base[region] : what == 1 ? size[region] : rights;
        }

        long mixWords(long x) {
            long mixed = x;
            for (int page = 0; page < PAGES; page++) {
                boolean open = isOpen(page << PAGE_SHIFT);
                int from = page << PAGE_SHIFT - 2;
                for (int i = 0; i < 64; i++) {
                    mixed = House.mix(mixed, open ? words[from + i] : 0);
                }
            }
            return mixed;
        }

        long mixRegions(long x) {
            long mixed = x;
            for (int i = 0; i < REGIONS; i++) {
                mixed = House.mix(mixed, sort[i]);
                if (sort[i] != 0) {
                    mixed = House.mix(House.mix(mixed, base[i]), size[i]);
                }
            }
            return mixed;
        }
    }

    /** What a hart has of the system. */
    private static final class Hart {
        private static final int KEPT_OF_STATUS = BIT_IE | BIT_PIE | BIT_PP | BIT_SUM | BIT_MXR;
        private static final int KEPT_OF_ENABLED = 1 << 1 | 1 << 5 | 1 << 9;
        private static final int KEPT_OF_ATP = 0x803fffff;
        private static final int SIGNALLED = 2;

        final int number;
        final int[] x = new int[32];
        int pc;
        int mode;
        boolean waits;
        /** The THREAD that runs here, or NONE. */
        int fibre;
        int slice;
        int sliceAtStart;
        int stepsOfFibre;
        int status;
        int enabled;
        int tvec;
        int scratch;
        int epc;
        int cause;
        int tval;
        int signal;
        int compare;
        int atp;

        Hart(int itsNumber) {
            number = itsNumber;
        }

        void restart() {
            Arrays.fill(x, 0);
            pc = 0;
            mode = 1;
            waits = false;
            fibre = NONE;
            slice = 0;
            sliceAtStart = 0;
            stepsOfFibre = 0;
            status = 0;
            enabled = 0;
            tvec = 0;
            scratch = 0;
            epc = 0;
            cause = 0;
            tval = 0;
            signal = 0;
            compare = -1;
            atp = 0;
        }

        int pending(Devices devices) {
            boolean timer = !isBelow(devices.time, compare);
            return signal | (timer ? 1 << 5 : 0) | (devices.wantsTheSystem() ? 1 << 9 : 0);
        }

        /** The interrupt that is DUE, or NONE. */
        int dueInterrupt(Devices devices) {
            if (fibre == NONE && mode == 1 && (status & BIT_IE) == 0) {
                return NONE;
            }
            int ready = pending(devices) & enabled;
            if ((ready & 1 << 9) != 0) {
                return 9;
            }
            if ((ready & 1 << 1) != 0) {
                return 1;
            }
            return (ready & 1 << 5) != 0 ? 5 : NONE;
        }

        void trap(int itsCause, int itsTval) {
            epc = pc;
            cause = itsCause;
            tval = itsTval;
            int kept = status & ~(BIT_IE | BIT_PIE | BIT_PP);
            status = kept | ((status & BIT_IE) != 0 ? BIT_PIE : 0) | (mode == 1 ? BIT_PP : 0);
            mode = 1;
            pc = tvec;
        }

        /** What instruction 258 does, but for the place where it goes on. */
        void leaveTrap() {
            mode = (status & BIT_PP) != 0 ? 1 : 0;
            int kept = status & ~(BIT_IE | BIT_PIE | BIT_PP);
            status = kept | ((status & BIT_PIE) != 0 ? BIT_IE : 0) | BIT_PIE;
        }

        void raiseSignal() {
            signal = SIGNALLED;
        }

        static boolean maySystemUse(int control, boolean writes) {
            switch (control) {
                case CONTROL_STATUS:
                case CONTROL_ENABLED:
                case CONTROL_TVEC:
                case CONTROL_SCRATCH:
                case CONTROL_EPC:
                case CONTROL_CAUSE:
                case CONTROL_TVAL:
                case CONTROL_PENDING:
                case CONTROL_COMPARE:
                case CONTROL_ATP:
                    return true;
                case CONTROL_TIME:
                case CONTROL_NUMBER:
                    return !writes;
                default:
                    return false;
            }
        }

        int readControl(int control, Devices devices) {
            switch (control) {
                case CONTROL_STATUS: return status;
                case CONTROL_ENABLED: return enabled;
                case CONTROL_TVEC: return tvec;
                case CONTROL_SCRATCH: return scratch;
                case CONTROL_EPC: return epc;
                case CONTROL_CAUSE: return cause;
                case CONTROL_TVAL: return tval;
                case CONTROL_PENDING: return pending(devices);
                case CONTROL_COMPARE: return compare;
                case CONTROL_ATP: return atp;
                case CONTROL_TIME: return devices.time;
                case CONTROL_NUMBER: return number;
                default: return 0;
            }
        }

        void writeControl(int control, int v) {
            switch (control) {
                case CONTROL_STATUS: status = v & KEPT_OF_STATUS; break;
                case CONTROL_ENABLED: enabled = v & KEPT_OF_ENABLED; break;
                case CONTROL_TVEC: tvec = v & ~3; break;
                case CONTROL_SCRATCH: scratch = v; break;
                case CONTROL_EPC: epc = v & ~3; break;
                case CONTROL_CAUSE: cause = v; break;
                case CONTROL_TVAL: tval = v; break;
                case CONTROL_PENDING: signal = v & SIGNALLED; break;
                case CONTROL_COMPARE: compare = v; break;
                case CONTROL_ATP: atp = v & KEPT_OF_ATP; break;
                default: break;
            }
        }

        long mixAll(long before) {
            long mixed = before;
            for (int i = 1; i < 32; i++) {
                mixed = House.mix(mixed, x[i]);
            }
            mixed = House.mix(House.mix(mixed, pc), mode);
            mixed = House.mix(House.mix(mixed, waits ? 1 : 0), fibre);
            mixed = House.mix(House.mix(mixed, status), enabled);
            mixed = House.mix(House.mix(mixed, tvec), scratch);
            mixed = House.mix(House.mix(mixed, epc), cause);
            mixed = House.mix(House.mix(mixed, tval), signal >> 1);
            mixed = House.mix(House.mix(mixed, compare), atp);
            return House.mix(mixed, slice);
        }
    }

    /** A THREAD of an enclave (Java has a class Thread of its own). */
    private static final class Fibre {
        final int number;
        final int[] x = new int[32];
        int pc;
        int enclave;
        int entry;
        int stack;
        /** 0: there is none. */
        int state;
        int hart;
        int handler;
        boolean held;
        int heldX10;
        int heldX11;
        int heldPc;
        int heldHandler;

        Fibre(int itsNumber) {
            number = itsNumber;
        }

        void make(int itsEnclave, int itsEntry, int itsStack) {
            enclave = itsEnclave;
            entry = itsEntry;
            stack = itsStack;
            state = IDLE;
            hart = NONE;
            clear();
        }

        void enter(int base, int x10, int x11) {
            clear();
            x[2] = base + stack;
            x[10] = x10;
            x[11] = x11;
            pc = base + entry;
        }

        private void clear() {
            Arrays.fill(x, 0);
            pc = 0;
            handler = 0;
            held = false;
        }

        void handle(int exception) {
            held = true;
            heldX10 = x[10];
            heldX11 = x[11];
            heldPc = pc;
            heldHandler = handler;
            x[10] = exception;
            x[11] = pc;
            pc = handler;
            handler = 0;
        }

        void goBack(int behind) {
            x[10] = heldX10;
            x[11] = heldX11;
            pc = heldPc + behind;
            handler = heldHandler;
            held = false;
        }
    }

    private static final class Enclave {
        final Sha measuring = new Sha();
        final int[] measurement = new int[8];
        final int[] record = new int[8];
        final int[] mail = new int[8];
        final int[] sender = new int[8];
        /** 0: there is none. */
        int state;
        int region;
        int flags;
        int generation;
        int asked;
        int fibres;
        boolean hasMail;

        void make(int itsRegion, int size) {
            state = LOADING;
            region = itsRegion;
            flags = NONE;
            generation++;
            asked = 0;
            fibres = 0;
            hasMail = false;
            measuring.begin();
            measuring.feedNumber(1);
            measuring.feedNumber(size);
        }

        void finish(int itsFlags) {
            measuring.feedNumber(4);
            measuring.feedNumber(itsFlags);
            measuring.end(measurement);
            Arrays.fill(record, 0);
            flags = itsFlags;
            state = READY;
        }
    }

    /** A row of numbers with a bound, the earliest first. */
    private static final class Row {
        private final int[] items;
        int size;

        Row(int room) {
            items = new int[room > 0 ? room : 0];
        }

        void clear() {
            size = 0;
        }

        /** False, and nothing comes: the row is full. */
        boolean add(int item) {
            if (size < 0 || size >= items.length) {
                return false;
            }
            items[size] = item;
            size++;
            return true;
        }

        int takeFirst(int ifNone) {
            if (size <= 0 || size > items.length) {
                return ifNone;
            }
            int taken = items[0];
            size--;
            System.arraycopy(items, 1, items, 0, size);
            return taken;
        }

        int at(int i) {
            return i >= 0 && i < size && i < items.length ? items[i] : NONE;
        }

        long mixAll(long before) {
            long mixed = House.mix(before, size);
            for (int i = 0; i < size && i < items.length; i++) {
                mixed = House.mix(mixed, items[i]);
            }
            return mixed;
        }
    }

    /** TIME, the LINE, THE DISK and its DMAs, the CONSOLE, and the PATH to the user. */
    private static final class Devices {
        private static final int MOST_WAITING = 4;
        private static final int ROUNDS_TO_WAIT = 5;
        private static final int SECTOR_WORDS = 64;

        int time;
        boolean line;
        final int[] disk = new int[32 * SECTOR_WORDS];
        private final boolean[] dmaFromMemory = new boolean[MOST_WAITING];
        private final int[] dmaSector = new int[MOST_WAITING];
        private final int[] dmaPlace = new int[MOST_WAITING];
        private final int[] dmaWaited = new int[MOST_WAITING];
        int waiting;
        /** Done and not told, those that FAILED among them. */
        int done;
        int failed;
        final Row console = new Row(1024);
        final Row systemKeys = new Row(16);
        final Row pathKeys = new Row(16);
        final Row panel = new Row(64);
        int pathOwner;

        /** As at first, but for THE DISK. */
        void restart() {
            time = 0;
            line = false;
            waiting = 0;
            done = 0;
            failed = 0;
            console.clear();
            systemKeys.clear();
            givePath(NONE);
        }

        void givePath(int enclave) {
            pathOwner = enclave;
            pathKeys.clear();
            panel.clear();
        }

        boolean wantsTheSystem() {
            return line || done > 0 || systemKeys.size > 0;
        }

        int ask(boolean fromMemory, int sector, int place) {
            if (waiting < 0 || waiting >= MOST_WAITING) {
                return FULL;
            }
            dmaFromMemory[waiting] = fromMemory;
            dmaSector[waiting] = sector;
            dmaPlace[waiting] = place;
            dmaWaited[waiting] = 0;
            waiting++;
            return waiting;
        }

        int tell() {
            int told = done + 256 * failed;
            done = 0;
            failed = 0;
            return told;
        }

        void endRound(Memory memory) {
            for (int i = 0; i < waiting && i < MOST_WAITING; i++) {
                dmaWaited[i]++;
            }
            if (waiting > 0 && dmaWaited[0] >= ROUNDS_TO_WAIT) {
                carryOutFirst(memory);
                dropFirst();
            }
            time++;
        }

        private void carryOutFirst(Memory memory) {
            int place = dmaPlace[0];
            int from = dmaSector[0] * SECTOR_WORDS;
            done++;
            if (!memory.areOpen(place, 4 * SECTOR_WORDS)) {
                failed++;
                return;
            }
            for (int i = 0; i < SECTOR_WORDS && from + i < disk.length; i++) {
                if (dmaFromMemory[0]) {
                    disk[from + i] = memory.wordAt(place + 4 * i);
                } else {
                    memory.store(place + 4 * i, disk[from + i], 4);
                }
            }
        }

        private void dropFirst() {
            waiting--;
            for (int i = 0; i < waiting && i + 1 < MOST_WAITING; i++) {
                dmaFromMemory[i] = dmaFromMemory[i + 1];
                dmaSector[i] = dmaSector[i + 1];
                dmaPlace[i] = dmaPlace[i + 1];
                dmaWaited[i] = dmaWaited[i + 1];
            }
        }

        /** A byte of THE DISK, which becomes another one unless that is below 0. */
        int swapDiskByte(int at, int v) {
            int word = at >> 2;
            if (word < 0 || word >= disk.length) {
                return NONE;
            }
            int shift = 8 * (at & 3);
            int was = disk[word] >>> shift & 255;
            if (v >= 0) {
                disk[word] = disk[word] & ~(255 << shift) | (v & 255) << shift;
            }
            return was;
        }

        long mixDisk(long before) {
            long mixed = before;
            for (int i = 0; i < disk.length; i++) {
                mixed = House.mix(mixed, disk[i]);
            }
            return mixed;
        }
    }

    /** All parts of the machine, and what the system's and the enclaves' calls have in common. */
    private static final class House {
        private static final int EVENTS_KEPT = 1000;
        private static final int EVENT_PARTS = 8;
        private static final int COUNTERS = 8;
        private static final int REPORT_MARK = 5;

        final Memory memory = new Memory();
        final Devices devices = new Devices();
        final Hart[] harts = new Hart[HARTS];
        final Fibre[] fibres = new Fibre[FIBRES];
        final Enclave[] enclaves = new Enclave[ENCLAVES];
        final Sha sha = new Sha();
        final int[] root = new int[8];
        final int[] log = new int[8];
        final int[] scratch = new int[8];
        /** 128 bytes of a REPORT that is written or looked at. */
        final int[] report = new int[32];
        boolean off;
        int eventCount;
        /** How many MEASUREMENTS have a COUNTER; they outlive boot(). */
        int counterCount;
        private final int[] device = new int[8];
        private final int[] events = new int[EVENTS_KEPT * EVENT_PARTS];
        private final int[] counted = new int[COUNTERS * 8];
        private final int[] counters = new int[COUNTERS];

        House(int seed) {
            for (int i = 0; i < HARTS; i++) {
                harts[i] = new Hart(i);
            }
            for (int i = 0; i < FIBRES; i++) {
                fibres[i] = new Fibre(i);
            }
            for (int i = 0; i < ENCLAVES; i++) {
                enclaves[i] = new Enclave();
            }
            sha.begin();
            sha.feedNumber(seed);
            sha.end(device);
            restart(0);
        }

        /** As at first, but for THE DISK and the COUNTERS. */
        void restart(int version) {
            memory.clear();
            devices.restart();
            for (int i = 0; i < HARTS; i++) {
                harts[i].restart();
            }
            for (int i = 0; i < FIBRES; i++) {
                fibres[i].state = 0;
            }
            for (int i = 0; i < ENCLAVES; i++) {
                enclaves[i].state = 0;
                enclaves[i].generation = 0;
            }
            Arrays.fill(log, 0);
            off = false;
            eventCount = 0;
            sha.beginKeyed(device);
            sha.feedNumber(version);
            sha.endKeyed(device, root);
        }

        boolean hasEnclave(int enclave) {
            return enclave >= 0 && enclave < ENCLAVES && enclaves[enclave].state != 0;
        }

        boolean hasFibre(int fibre) {
            return fibre >= 0 && fibre < FIBRES && fibres[fibre].state != 0;
        }

        boolean hasRegion(int region) {
            return region >= 0 && region < REGIONS && memory.sort[region] != 0;
        }

        int baseOf(int enclave) {
            return memory.base[enclaves[enclave].region];
        }

        int sizeOf(int enclave) {
            return memory.size[enclaves[enclave].region];
        }

        int enclaveCount() {
            int n = 0;
            for (int i = 0; i < ENCLAVES; i++) {
                n += enclaves[i].state != 0 ? 1 : 0;
            }
            return n;
        }

        int fibreCount() {
            int n = 0;
            for (int i = 0; i < FIBRES; i++) {
                n += fibres[i].state != 0 ? 1 : 0;
            }
            return n;
        }

        void begin(Hart hart, Fibre fibre) {
            fibre.state = RUNNING;
            fibre.hart = hart.number;
            hart.fibre = fibre.number;
            hart.waits = false;
            hart.sliceAtStart = hart.slice;
            hart.stepsOfFibre = 0;
            memory.unreserve(hart.number);
        }

        /** A THREAD ceases to run: it gets a state, the system learns why and with what. */
        void cease(Hart hart, Fibre fibre, int state, int why, int value) {
            fibre.state = state;
            fibre.hart = NONE;
            hart.fibre = NONE;
            hart.x[10] = why;
            hart.x[11] = value;
            hart.x[12] = fibre.number;
            memory.unreserve(hart.number);
        }

        void note(int sort, Fibre fibre, int p, int q, int r) {
            if (eventCount >= 0 && eventCount < EVENTS_KEPT) {
                int at = eventCount * EVENT_PARTS;
                events[at] = sort;
                events[at + 1] = devices.time;
                events[at + 2] = fibre.hart;
                events[at + 3] = fibre.number;
                events[at + 4] = fibre.enclave;
                events[at + 5] = p;
                events[at + 6] = q;
                events[at + 7] = r;
            }
            eventCount++;
        }

        int eventPart(int i, int what) {
            boolean kept = i >= 0 && i < eventCount && i < EVENTS_KEPT;
            return kept && what >= 0 && what < EVENT_PARTS ? events[i * EVENT_PARTS + what] : 0;
        }

        /** A store of a THREAD's, or of the monitor's for it. */
        void storeFor(Fibre fibre, int place, int value, int n) {
            memory.store(place, value, n);
            if (memory.tellsOfStores(place)) {
                int seen = n == 4 ? value : value & (n == 2 ? 0xffff : 0xff);
                note(EVENT_STORE, fibre, place, seen, n);
            }
        }

        /** Makes the HMAC of the REPORT's first 96 bytes. */
        void sealReport(int[] out) {
            sha.beginKeyed(root);
            sha.feedNumber(REPORT_MARK);
            sha.feedWords(report, 24);
            sha.endKeyed(root, out);
        }

        /** Whether the REPORT's last 32 bytes are a seal. */
        boolean bears(int[] seal) {
            for (int i = 0; i < 8 && i < seal.length; i++) {
                if (seal[i] != report[24 + i]) {
                    return false;
                }
            }
            return true;
        }

        /** The COUNTER of a MEASUREMENT is one more; FULL, if it has none and can get none. */
        int countUp(int[] measurement) {
            for (int i = 0; i < counterCount && i < COUNTERS; i++) {
                if (isCounted(i, measurement)) {
                    counters[i]++;
                    return counters[i];
                }
            }
            if (counterCount >= COUNTERS) {
                return FULL;
            }
            System.arraycopy(measurement, 0, counted, counterCount * 8, 8);
            counters[counterCount] = 1;
            counterCount++;
            return 1;
        }

        private boolean isCounted(int counter, int[] measurement) {
            for (int i = 0; i < 8; i++) {
                if (counted[counter * 8 + i] != measurement[i]) {
                    return false;
                }
            }
            return true;
        }

        void chain(int f, int p, int q, int r, int s) {
            sha.begin();
            sha.feedWords(log, 8);
            sha.feedNumber(f);
            sha.feedNumber(p);
            sha.feedNumber(q);
            sha.feedNumber(r);
            sha.feedNumber(s);
            sha.end(log);
        }

        static long mix(long x, int v) {
            return x * 6364136223846793005L + v + 1;
        }

        /** OUTSIDE. */
        long survey() {
            long x = memory.mixWords(1);
            for (int i = 0; i < HARTS; i++) {
                x = harts[i].mixAll(x);
            }
            x = mix(x, devices.time);
            x = memory.mixRegions(x);
            for (int i = 0; i < ENCLAVES; i++) {
                x = mix(mix(x, enclaves[i].state), enclaves[i].generation);
            }
            for (int i = 0; i < FIBRES; i++) {
                x = mix(x, fibres[i].state);
            }
            x = devices.console.mixAll(x);
            x = devices.mixDisk(x);
            x = mix(mix(mix(x, devices.waiting), devices.done), devices.failed);
            x = mix(x, devices.pathOwner);
            x = devices.systemKeys.mixAll(x);
            return mix(x, off ? 1 : 0);
        }
    }

    /** Fetches words and does them, for the system or for the THREAD that runs on the hart. */
    private static final class Processor {
        private static final long LOW_32 = 0xffffffffL;
        private static final int ILLEGAL = 2;
        private static final int CALL_FROM_U = 8;

        private final House house;
        private final Memory memory;
        private final SystemCalls systemCalls;
        private final FibreCalls fibreCalls;
        private Hart hart;
        /** Means something only while inEnclave. */
        private Fibre fibre;
        private boolean inEnclave;
        private int[] x;
        private int pc;
        private int next;
        /** The exception of this step, or NONE, and what TVAL says of it. */
        private int trouble;
        private int troubleValue;
        private boolean calls;

        Processor(House itsHouse, SystemCalls itsSystemCalls) {
            house = itsHouse;
            memory = itsHouse.memory;
            systemCalls = itsSystemCalls;
            fibreCalls = new FibreCalls(itsHouse);
            hart = itsHouse.harts[0];
            fibre = itsHouse.fibres[0];
            x = hart.x;
        }

        void step(int number) {
            look(house.harts[number]);
            if (hart.waits && (hart.pending(house.devices) & hart.enabled) == 0) {
                return;
            }
            hart.waits = false;
            if (isInterrupted()) {
                return;
            }
            doOne();
            if (trouble != NONE) {
                suffer();
            } else if (calls && inEnclave) {
                fibreCalls.serve(hart, fibre);
            } else if (calls) {
                int answer = systemCalls.serve(hart, x[17], x[10], x[11], x[12], x[13]);
                hart.pc = next;
                if (hart.fibre == NONE) {
                    x[10] = answer;
                }
            } else if (inEnclave) {
                fibre.pc = next;
            } else {
                hart.pc = next;
            }
        }

        private void look(Hart at) {
            hart = at;
            inEnclave = house.hasFibre(hart.fibre);
            if (inEnclave) {
                fibre = house.fibres[hart.fibre];
            }
            x = inEnclave ? fibre.x : hart.x;
            pc = inEnclave ? fibre.pc : hart.pc;
            next = pc + 4;
            trouble = NONE;
            troubleValue = 0;
            calls = false;
        }

        private boolean isInterrupted() {
            int due = hart.dueInterrupt(house.devices);
            if (due != NONE && inEnclave) {
                house.cease(hart, fibre, INTERRUPTED, 2, 0);
                return true;
            }
            if (due != NONE) {
                hart.trap(1 << 31 | due, 0);
                return true;
            }
            if (inEnclave && hart.sliceAtStart > 0 && hart.stepsOfFibre >= hart.sliceAtStart) {
                house.cease(hart, fibre, INTERRUPTED, 4, 0);
                return true;
            }
            return false;
        }

        private void suffer() {
            if (!inEnclave) {
                hart.trap(trouble, troubleValue);
            } else if (fibre.handler != 0) {
                fibre.handle(trouble);
            } else {
                house.note(EVENT_FAULT, fibre, trouble, 0, 0);
                house.cease(hart, fibre, DEAD, 3, trouble);
            }
        }

        private void fail(int exception, int value) {
            trouble = exception;
            troubleValue = value;
        }

        private void put(int word, int value) {
            int d = word >>> 7 & 31;
            if (d != 0) {
                x[d] = value;
            }
        }

        private void doOne() {
            if (inEnclave) {
                hart.stepsOfFibre++;
            }
            int place = locate(pc, 1, MAY_FETCH);
            if (place < 0) {
                return;
            }
            int word = memory.wordAt(place);
            switch (word & 127) {
                case 55: put(word, word & ~0xfff); break;
                case 23: put(word, pc + (word & ~0xfff)); break;
                case 111: jump(word, pc + offsetJ(word)); break;
                case 103: jumpToRegister(word); break;
                case 99: branch(word); break;
                case 3: load(word); break;
                case 35: store(word); break;
                case 15: fence(word); break;
                case 19: reckonWithNumber(word); break;
                case 51: reckonWithRegister(word); break;
                case 47: reckonInMemory(word); break;
                case 115: special(word); break;
                default: fail(ILLEGAL, word); break;
            }
        }

        private static int offsetJ(int word) {
            return word >> 31 << 20 | word & 0xff000 | word >>> 9 & 0x800 | word >>> 20 & 0x7fe;
        }

        private static int offsetB(int word) {
            return word >> 31 << 12 | word << 4 & 0x800 | word >>> 20 & 0x7e0 | word >>> 7 & 0x1e;
        }

        private int leftOf(int word) {
            return x[word >>> 15 & 31];
        }

        private int rightOf(int word) {
            return x[word >>> 20 & 31];
        }

        private boolean goTo(int target) {
            if ((target & 3) != 0) {
                fail(0, target);
                return false;
            }
            next = target;
            return true;
        }

        private void jump(int word, int target) {
            if (goTo(target)) {
                put(word, pc + 4);
            }
        }

        private void jumpToRegister(int word) {
            if ((word >>> 12 & 7) != 0) {
                fail(ILLEGAL, word);
            } else {
                jump(word, leftOf(word) + (word >> 20) & ~1);
            }
        }

        private void branch(int word) {
            int f = word >>> 12 & 7;
            if (f == 2 || f == 3) {
                fail(ILLEGAL, word);
                return;
            }
            int left = leftOf(word);
            int right = rightOf(word);
            boolean holds;
            if (f < 2) {
                holds = left == right;
            } else if (f < 6) {
                holds = left < right;
            } else {
                holds = isBelow(left, right);
            }
            if (holds == ((f & 1) == 0)) {
                goTo(pc + offsetB(word));
            }
        }

        private void load(int word) {
            int f = word >>> 12 & 7;
            if (f == 3 || f > 5) {
                fail(ILLEGAL, word);
                return;
            }
            int address = leftOf(word) + (word >> 20);
            int place = locate(address, 1 << (f & 3), MAY_LOAD);
            if (place < 0) {
                return;
            }
            int value = memory.wordAt(place) >>> 8 * (place & 3);
            switch (f) {
                case 0: put(word, (byte) value); break;
                case 1: put(word, (short) value); break;
                case 4: put(word, value & 0xff); break;
                case 5: put(word, value & 0xffff); break;
                default: put(word, value); break;
            }
        }

        private void store(int word) {
            int f = word >>> 12 & 7;
            if (f > 2) {
                fail(ILLEGAL, word);
                return;
            }
            int address = leftOf(word) + (word >> 25 << 5 | word >>> 7 & 31);
            int place = locate(address, 1 << f, MAY_STORE);
            if (place >= 0) {
                keep(place, rightOf(word), 1 << f);
            }
        }

        private void keep(int place, int value, int n) {
            if (inEnclave) {
                house.storeFor(fibre, place, value, n);
            } else {
                memory.store(place, value, n);
            }
        }

        private void fence(int word) {
            if ((word >>> 12 & 7) > 1) {
                fail(ILLEGAL, word);
            }
        }

        private void reckonWithNumber(int word) {
            int f = word >>> 12 & 7;
            int g = word >>> 25;
            boolean shifts = f == 1 || f == 5;
            if (shifts && g != 0 && !(f == 5 && g == 32)) {
                fail(ILLEGAL, word);
                return;
            }
            int right = shifts ? word >>> 20 & 31 : word >> 20;
            put(word, reckoned(f, shifts && g == 32, leftOf(word), right));
        }

        private void reckonWithRegister(int word) {
            int f = word >>> 12 & 7;
            int g = word >>> 25;
            int left = leftOf(word);
            int right = rightOf(word);
            if (g == 1) {
                put(word, f < 4 ? multiplied(f, left, right) : divided(f, left, right));
            } else if (g == 32 && f == 0) {
                put(word, left - right);
            } else if (g == 0 || g == 32 && f == 5) {
                put(word, reckoned(f, g == 32, left, right));
            } else {
                fail(ILLEGAL, word);
            }
        }

        private static int reckoned(int f, boolean signed, int left, int right) {
            switch (f) {
                case 0: return left + right;
                case 1: return left << (right & 31);
                case 2: return left < right ? 1 : 0;
                case 3: return isBelow(left, right) ? 1 : 0;
                case 4: return left ^ right;
                case 5: return signed ? left >> (right & 31) : left >>> (right & 31);
                case 6: return left | right;
                default: return left & right;
            }
        }

        private static int multiplied(int f, int left, int right) {
            switch (f) {
                case 0: return left * right;
                case 1: return (int) ((long) left * right >> 32);
                case 2: return (int) (left * (right & LOW_32) >> 32);
                default: return (int) ((left & LOW_32) * (right & LOW_32) >>> 32);
            }
        }

        private static int divided(int f, int left, int right) {
            boolean rest = f > 5;
            if (right == 0) {
                return rest ? left : -1;
            }
            if ((f & 1) == 1) {
                long above = left & LOW_32;
                long below = right & LOW_32;
                return (int) (rest ? above % below : above / below);
            }
            return rest ? left % right : left / right;
        }

        private void reckonInMemory(int word) {
            int kind = word >>> 27;
            boolean loads = kind == 2;
            boolean known = kind < 5 || (kind & 3) == 0;
            if ((word >>> 12 & 7) != 2 || !known || loads && (word >>> 20 & 31) != 0) {
                fail(ILLEGAL, word);
                return;
            }
            int place = locate(leftOf(word), 4, loads ? MAY_LOAD : MAY_STORE);
            if (place < 0) {
                return;
            }
            int right = rightOf(word);
            if (loads) {
                put(word, memory.wordAt(place));
                memory.reserve(hart.number, place);
            } else if (kind == 3) {
                boolean reserved = memory.isReserved(hart.number, place);
                if (reserved) {
                    keep(place, right, 4);
                }
                memory.unreserve(hart.number);
                put(word, reserved ? 0 : 1);
            } else {
                int was = memory.wordAt(place);
                keep(place, combined(kind, was, right), 4);
                put(word, was);
            }
        }

        private static int combined(int kind, int was, int right) {
            boolean belowU = isBelow(was, right);
            switch (kind) {
                case 0: return was + right;
                case 4: return was ^ right;
                case 8: return was | right;
                case 12: return was & right;
                case 16: return was < right ? was : right;
                case 20: return was < right ? right : was;
                case 24: return belowU ? was : right;
                case 28: return belowU ? right : was;
                default: return right;
            }
        }

        private void special(int word) {
            int f = word >>> 12 & 7;
            boolean inS = !inEnclave && hart.mode == 1;
            if (f == 4) {
                fail(ILLEGAL, word);
            } else if (f != 0) {
                useControl(word, f, inS);
            } else if ((word >>> 7 & 31) != 0) {
                fail(ILLEGAL, word);
            } else if (word >>> 25 == 9) {
                failUnless(inS, word);
            } else {
                specialByCode(word, inS);
            }
        }

        private void failUnless(boolean allowed, int word) {
            if (!allowed) {
                fail(ILLEGAL, word);
            }
        }

        private void specialByCode(int word, boolean inS) {
            // The field a has to be 0, so it is left in and no code with it set fits.
            int code = word >>> 15;
            if (code == 0 && (inS || inEnclave)) {
                calls = true;
            } else if (code == 0) {
                fail(CALL_FROM_U, 0);
            } else if (code == 1 << 5) {
                fail(3, pc);
            } else if (code == 258 << 5 && inS) {
                next = hart.epc;
                hart.leaveTrap();
            } else if (code == 261 << 5 && inS) {
                hart.waits = true;
            } else {
                fail(ILLEGAL, word);
            }
        }

        private void useControl(int word, int f, boolean inS) {
            int control = word >>> 20;
            int fieldA = word >>> 15 & 31;
            boolean writes = (f & 3) == 1 || fieldA != 0;
            boolean allowed = inS ? Hart.maySystemUse(control, writes) : control == CONTROL_TIME && !writes;
            if (!allowed) {
                fail(ILLEGAL, word);
                return;
            }
            int number = f > 4 ? fieldA : x[fieldA];
            int was = hart.readControl(control, house.devices);
            if (writes) {
                int kind = f & 3;
                hart.writeControl(control, kind == 1 ? number : kind == 2 ? was | number : was & ~number);
            }
            put(word, was);
        }

        /** The PLACE of n bytes at an address, or NONE, and then the exception is set. */
        private int locate(int address, int n, int access) {
            if ((address & n - 1) != 0) {
                fail(access == MAY_LOAD ? 4 : 6, address);
                return NONE;
            }
            long place = address & LOW_32;
            if (!inEnclave && hart.atp < 0) {
                place = walk(address, access);
                if (place < 0) {
                    return NONE;
                }
            }
            if ((memory.rightsAt(place, inEnclave ? fibre.enclave : NONE) & access) == 0) {
                fail(accessFault(access), address);
                return NONE;
            }
            return (int) place;
        }

        private long walk(int address, int access) {
            long table = (hart.atp & 0x3fffffL) << 12;
            for (int level = 1; level >= 0; level--) {
                int below = level == 1 ? 22 : 12;
                long at = table + 4 * (address >>> below & 1023);
                if (!memory.isOpen(at)) {
                    fail(accessFault(access), address);
                    return NONE;
                }
                int entry = memory.wordAt((int) at);
                boolean leaf = (entry & 14) != 0;
                table = (long) (entry >>> 10) << 12;
                if ((entry & 1) == 0 || (entry & 6) == 4) {
                    break;
                }
                if (leaf && (level == 0 || (entry & 0xffc00) == 0) && allows(entry, access)) {
                    return table | address & (1 << below) - 1;
                }
                if (leaf) {
                    break;
                }
            }
            fail(pageFault(access), address);
            return NONE;
        }

        private boolean allows(int leaf, int access) {
            boolean readable = (leaf & 2) != 0 || (leaf & 8) != 0 && (hart.status & BIT_MXR) != 0;
            boolean kind;
            if (access == MAY_FETCH) {
                kind = (leaf & 8) != 0;
            } else {
                kind = access == MAY_LOAD ? readable : (leaf & 4) != 0 && (leaf & 128) != 0;
            }
            boolean ofU = (leaf & 16) != 0;
            boolean anyway = hart.mode == 1 && access != MAY_FETCH && (hart.status & BIT_SUM) != 0;
            return kind && (leaf & 64) != 0 && (anyway || ofU == (hart.mode == 0));
        }

        private static int accessFault(int access) {
            return access == MAY_FETCH ? 1 : access == MAY_LOAD ? 5 : 7;
        }

        private static int pageFault(int access) {
            return access == MAY_FETCH ? 12 : access == MAY_LOAD ? 13 : 15;
        }
    }

    /** The CALLS of the system. */
    private static final class SystemCalls {
        private static final int PAGE_BYTES = 256;
        private static final int MOST_FIBRES_OF_ONE = 3;

        private final House house;
        private final Memory memory;

        SystemCalls(House itsHouse) {
            house = itsHouse;
            memory = itsHouse.memory;
        }

        /** The answer; a THREAD that was begun is one, too, which no register gets. */
        int serve(Hart hart, int f, int p, int q, int r, int s) {
            int answer = f < 12 ? answerOfEnclaves(hart, f, p, q, r, s) : answerOfMachine(hart, f, p, q, r);
            boolean chained = f >= 1 && f <= 11 || f == 19 || f == 20;
            if (chained && answer >= 0) {
                house.chain(f, p, q, r, s);
            }
            return answer;
        }

        private int answerOfEnclaves(Hart hart, int f, int p, int q, int r, int s) {
            switch (f) {
                case 1: return create(p, q);
                case 2: return load(p, q, r);
                case 3: return makeFibre(p, q, r);
                case 4: return finalise(p, q);
                case 5: return enter(hart, p, q, r);
                case 6: return resume(hart, p, q);
                case 7: return stop(p);
                case 8: return destroy(p);
                case 9: return share(p, q, r);
                case 10: return join(p, q, r, s);
                case 11: return drop(p);
                default: return BAD;
            }
        }

        private int answerOfMachine(Hart hart, int f, int p, int q, int r) {
            switch (f) {
                case 12: return putOut(p);
                case 13: return signal(p);
                case 14: return askDisk(p, q, r);
                case 15: return house.devices.tell();
                case 16: return measure(p, q);
                case 17: return look(p, q);
                case 18: return goOff();
                case 19: return setSlice(hart, p);
                case 20: return offer(p, q, r);
                case 21: return house.devices.systemKeys.takeFirst(NO_KEY);
                default: return BAD;
            }
        }

        private int create(int base, int size) {
            if (!Memory.isSpan(base, size)) {
                return BAD;
            }
            if (memory.overlaps(base, size)) {
                return OVERLAP;
            }
            int enclave = leastFreeEnclave();
            int region = memory.leastFreeRegion();
            if (enclave == NONE || region == NONE) {
                return FULL;
            }
            memory.give(region, PRIVATE, base, size, enclave, NONE);
            house.enclaves[enclave].make(region, size);
            return enclave;
        }

        private int leastFreeEnclave() {
            for (int i = 0; i < ENCLAVES; i++) {
                if (house.enclaves[i].state == 0) {
                    return i;
                }
            }
            return NONE;
        }

        /** The REGION that a SPAN became, OVERLAP or FULL. */
        private int giveRegion(int sort, int base, int size, int enclave, int other) {
            if (memory.overlaps(base, size)) {
                return OVERLAP;
            }
            int region = memory.leastFreeRegion();
            if (region == NONE) {
                return FULL;
            }
            memory.give(region, sort, base, size, enclave, other);
            return region;
        }

        private int load(int enclave, int page, int from) {
            if (!house.hasEnclave(enclave) || page < 0 || page >= house.sizeOf(enclave) / PAGE_BYTES) {
                return BAD;
            }
            if ((from & 3) != 0 || !memory.areOpen(from, PAGE_BYTES)) {
                return BAD;
            }
            Enclave into = house.enclaves[enclave];
            if (into.state != LOADING) {
                return STATE;
            }
            int to = house.baseOf(enclave) + page * PAGE_BYTES;
            into.measuring.feedNumber(2);
            into.measuring.feedNumber(page);
            for (int i = 0; i < PAGE_BYTES; i += 4) {
                int word = memory.wordAt(from + i);
                memory.store(to + i, word, 4);
                into.measuring.feedNumber(word);
            }
            return 0;
        }

        private int makeFibre(int enclave, int entry, int stack) {
            if (!house.hasEnclave(enclave)) {
                return BAD;
            }
            int size = house.sizeOf(enclave);
            if ((entry & 3) != 0 || entry < 0 || entry >= size || (stack & 15) != 0 || stack < 0 || stack > size) {
                return BAD;
            }
            Enclave of = house.enclaves[enclave];
            if (of.state != LOADING) {
                return STATE;
            }
            int free = leastFreeFibre();
            if (free == NONE || of.fibres >= MOST_FIBRES_OF_ONE) {
                return FULL;
            }
            house.fibres[free].make(enclave, entry, stack);
            of.fibres++;
            of.measuring.feedNumber(3);
            of.measuring.feedNumber(entry);
            of.measuring.feedNumber(stack);
            return free;
        }

        private int leastFreeFibre() {
            for (int i = 0; i < FIBRES; i++) {
                if (house.fibres[i].state == 0) {
                    return i;
                }
            }
            return NONE;
        }

        private int finalise(int enclave, int flags) {
            if (!house.hasEnclave(enclave) || flags < 0 || flags > 1) {
                return BAD;
            }
            if (house.enclaves[enclave].state != LOADING) {
                return STATE;
            }
            house.enclaves[enclave].finish(flags);
            return 0;
        }

        private int enter(Hart hart, int number, int x10, int x11) {
            if (!house.hasFibre(number)) {
                return BAD;
            }
            Fibre fibre = house.fibres[number];
            if (house.enclaves[fibre.enclave].state != READY || fibre.state != IDLE) {
                return STATE;
            }
            fibre.enter(house.baseOf(fibre.enclave), x10, x11);
            house.begin(hart, fibre);
            return number;
        }

        private int resume(Hart hart, int number, int x10) {
            if (!house.hasFibre(number)) {
                return BAD;
            }
            Fibre fibre = house.fibres[number];
            boolean paused = fibre.state == INTERRUPTED || fibre.state == YIELDED;
            if (house.enclaves[fibre.enclave].state != READY || !paused) {
                return STATE;
            }
            if (fibre.state == YIELDED) {
                fibre.x[10] = x10;
            }
            house.begin(hart, fibre);
            return number;
        }

        private int stop(int enclave) {
            if (!house.hasEnclave(enclave)) {
                return BAD;
            }
            if (house.enclaves[enclave].state != READY) {
                return STATE;
            }
            for (int i = 0; i < FIBRES; i++) {
                if (house.fibres[i].state == RUNNING && house.fibres[i].enclave == enclave) {
                    return BUSY;
                }
            }
            house.enclaves[enclave].state = STOPPED;
            return 0;
        }

        private int destroy(int enclave) {
            if (!house.hasEnclave(enclave)) {
                return BAD;
            }
            if (house.enclaves[enclave].state == READY) {
                return STATE;
            }
            for (int i = 0; i < REGIONS; i++) {
                if (memory.sort[i] != 0 && memory.sideOf(i, enclave) != 0) {
                    memory.takeBack(i);
                }
            }
            for (int i = 0; i < FIBRES; i++) {
                if (house.fibres[i].enclave == enclave) {
                    house.fibres[i].state = 0;
                }
            }
            house.enclaves[enclave].state = 0;
            if (house.devices.pathOwner == enclave) {
                house.devices.givePath(NONE);
            }
            return 0;
        }

        private int share(int enclave, int base, int size) {
            if (!house.hasEnclave(enclave) || !Memory.isSpan(base, size)) {
                return BAD;
            }
            if (house.enclaves[enclave].state == STOPPED) {
                return STATE;
            }
            return giveRegion(SHARED, base, size, enclave, NONE);
        }

        private int join(int enclave, int other, int base, int size) {
            if (!house.hasEnclave(enclave) || !house.hasEnclave(other) || enclave == other) {
                return BAD;
            }
            if (!Memory.isSpan(base, size)) {
                return BAD;
            }
            if (house.enclaves[enclave].state == STOPPED || house.enclaves[other].state == STOPPED) {
                return STATE;
            }
            return giveRegion(LINK, base, size, enclave, other);
        }

        private int drop(int region) {
            if (!house.hasRegion(region) || memory.sort[region] == PRIVATE) {
                return BAD;
            }
            memory.takeBack(region);
            return 0;
        }

        private int offer(int enclave, int base, int size) {
            if (!house.hasEnclave(enclave) || !Memory.isSpan(base, size)) {
                return BAD;
            }
            if (house.enclaves[enclave].state != READY) {
                return STATE;
            }
            return giveRegion(EXTRA, base, size, enclave, NONE);
        }

        private int putOut(int value) {
            return house.devices.console.add(value & 255) ? house.devices.console.size : FULL;
        }

        private int signal(int hart) {
            if (hart < 0 || hart >= HARTS) {
                return BAD;
            }
            house.harts[hart].raiseSignal();
            return 0;
        }

        private int askDisk(int direction, int sector, int place) {
            if (direction < 0 || direction > 1 || sector < 0 || sector > 31) {
                return BAD;
            }
            if ((place & 3) != 0 || place < 0 || place > BYTES - 256) {
                return BAD;
            }
            return house.devices.ask(direction == 1, sector, place);
        }

        private int measure(int enclave, int k) {
            if (!house.hasEnclave(enclave) || k < 0 || k > 7) {
                return BAD;
            }
            Enclave of = house.enclaves[enclave];
            return of.state == LOADING ? STATE : of.measurement[k];
        }

        private int look(int enclave, int offset) {
            if (!house.hasEnclave(enclave) || (offset & 3) != 0) {
                return BAD;
            }
            if (offset < 0 || offset >= house.sizeOf(enclave)) {
                return BAD;
            }
            // While LOADING the FLAGS are not 1 yet.
            return house.enclaves[enclave].flags == 1 ? memory.wordAt(house.baseOf(enclave) + offset) : DENIED;
        }

        private int goOff() {
            house.off = true;
            return 0;
        }

        private int setSlice(Hart hart, int steps) {
            if (steps < 0 || steps > MOST_SLICE) {
                return BAD;
            }
            hart.slice = steps;
            return 0;
        }
    }

    /** The CALLS of THREADS. */
    private static final class FibreCalls {
        private static final int KEY_MARK = 6;
        private static final int RANDOM_MARK = 7;
        private static final int DIGEST_BYTES = 32;
        private static final int REPORT_BYTES = 128;

        private final House house;
        private final Memory memory;
        private final Devices devices;
        private final int[] data = new int[8];

        FibreCalls(House itsHouse) {
            house = itsHouse;
            memory = itsHouse.memory;
            devices = itsHouse.devices;
        }

        void serve(Hart hart, Fibre fibre) {
            int p = fibre.x[10];
            int q = fibre.x[11];
            boolean returns = fibre.held && (p & 3) == 0;
            switch (fibre.x[17]) {
                case 32:
                    leave(hart, fibre, EVENT_EXIT, IDLE, 0);
                    break;
                case 33:
                    leave(hart, fibre, EVENT_YIELD, YIELDED, 1);
                    break;
                case 44:
                    if (returns) {
                        fibre.goBack(p);
                    } else {
                        goOn(fibre, BAD);
                    }
                    break;
                case 34: goOn(fibre, attest(fibre, p, q)); break;
                case 35: goOn(fibre, giveKey(fibre, p, q)); break;
                case 36: goOn(fibre, giveRandom(fibre, p, q)); break;
                case 37: goOn(fibre, verify(fibre, p)); break;
                case 38: goOn(fibre, accept(fibre, p)); break;
                case 39: goOn(fibre, giveDigest(fibre, p, house.enclaves[fibre.enclave].measurement)); break;
                case 40: goOn(fibre, send(fibre, p, q)); break;
                case 41: goOn(fibre, receive(fibre, p)); break;
                case 42: goOn(fibre, countOne(fibre)); break;
                case 43: goOn(fibre, setHandler(fibre, p)); break;
                case 49: goOn(fibre, extend(fibre, p)); break;
                case 50: goOn(fibre, giveDigest(fibre, p, house.log)); break;
                default: goOn(fibre, answerOfPath(fibre, fibre.x[17], p)); break;
            }
        }

        private static void goOn(Fibre fibre, int answer) {
            fibre.x[10] = answer;
            fibre.pc += 4;
        }

        private void leave(Hart hart, Fibre fibre, int event, int state, int why) {
            int value = fibre.x[10];
            house.note(event, fibre, value, 0, 0);
            fibre.pc += 4;
            house.cease(hart, fibre, state, why, value);
        }

        private boolean reaches(Fibre fibre, int place, int n, int access) {
            for (int i = 0; i < n; i++) {
                if ((memory.rightsAt((place & 0xffffffffL) + i, fibre.enclave) & access) == 0) {
                    return false;
                }
            }
            return true;
        }

        /** Reads whole words of bytes, the earliest byte becoming the highest one. */
        private void read(int place, int n, int[] into, int from) {
            for (int i = 0; i < n && from + i / 4 < into.length; i++) {
                int at = from + i / 4;
                into[at] = into[at] << 8 | memory.byteAt(place + i);
            }
        }

        private void write(Fibre fibre, int place, int[] words, int n) {
            for (int i = 0; i < n && i / 4 < words.length; i++) {
                house.storeFor(fibre, place + i, words[i / 4] >>> 24 - 8 * (i & 3) & 255, 1);
            }
        }

        private int attest(Fibre fibre, int from, int to) {
            if (!reaches(fibre, from, DIGEST_BYTES, MAY_LOAD) || !reaches(fibre, to, REPORT_BYTES, MAY_STORE)) {
                return BAD;
            }
            Enclave own = house.enclaves[fibre.enclave];
            System.arraycopy(own.measurement, 0, house.report, 0, 8);
            System.arraycopy(own.record, 0, house.report, 8, 8);
            read(from, DIGEST_BYTES, house.report, 16);
            house.sealReport(house.scratch);
            System.arraycopy(house.scratch, 0, house.report, 24, 8);
            write(fibre, to, house.report, REPORT_BYTES);
            return 0;
        }

        private int verify(Fibre fibre, int from) {
            if (!reaches(fibre, from, REPORT_BYTES, MAY_LOAD)) {
                return BAD;
            }
            read(from, REPORT_BYTES, house.report, 0);
            house.sealReport(house.scratch);
            return house.bears(house.scratch) ? 1 : 0;
        }

        private int giveKey(Fibre fibre, int label, int to) {
            if (!reaches(fibre, to, DIGEST_BYTES, MAY_STORE)) {
                return BAD;
            }
            Sha sha = house.sha;
            sha.beginKeyed(house.root);
            sha.feedNumber(KEY_MARK);
            sha.feedWords(house.enclaves[fibre.enclave].measurement, 8);
            sha.feedNumber(label);
            sha.endKeyed(house.root, data);
            write(fibre, to, data, DIGEST_BYTES);
            return 0;
        }

        private int giveRandom(Fibre fibre, int to, int n) {
            if (n < 1 || n > DIGEST_BYTES || !reaches(fibre, to, n, MAY_STORE)) {
                return BAD;
            }
            Enclave own = house.enclaves[fibre.enclave];
            Sha sha = house.sha;
            sha.beginKeyed(house.root);
            sha.feedNumber(RANDOM_MARK);
            sha.feedWords(own.measurement, 8);
            sha.feedNumber(own.generation);
            sha.feedNumber(own.asked);
            sha.endKeyed(house.root, data);
            own.asked++;
            write(fibre, to, data, n);
            return 0;
        }

        private int giveDigest(Fibre fibre, int to, int[] digest) {
            if (!reaches(fibre, to, DIGEST_BYTES, MAY_STORE)) {
                return BAD;
            }
            write(fibre, to, digest, DIGEST_BYTES);
            return 0;
        }

        private int accept(Fibre fibre, int region) {
            if (!house.hasRegion(region) || memory.sort[region] == PRIVATE) {
                return BAD;
            }
            int side = memory.sideOf(region, fibre.enclave);
            if (side == 0) {
                return BAD;
            }
            if ((memory.accepted[region] & side) != 0) {
                return STATE;
            }
            memory.accepted[region] |= side;
            house.note(EVENT_ACCEPT, fibre, region, 0, 0);
            return 0;
        }

        private int send(Fibre fibre, int to, int from) {
            if (!house.hasEnclave(to) || to == fibre.enclave || !reaches(fibre, from, DIGEST_BYTES, MAY_LOAD)) {
                return BAD;
            }
            Enclave other = house.enclaves[to];
            if (other.state != READY) {
                return STATE;
            }
            if (other.hasMail) {
                return FULL;
            }
            read(from, DIGEST_BYTES, other.mail, 0);
            System.arraycopy(house.enclaves[fibre.enclave].measurement, 0, other.sender, 0, 8);
            other.hasMail = true;
            for (int k = 0; k < 8; k++) {
                house.note(EVENT_SEND, fibre, to, k, Sha.flip(other.mail[k]));
            }
            return 0;
        }

        private int receive(Fibre fibre, int to) {
            if (!reaches(fibre, to, 2 * DIGEST_BYTES, MAY_STORE)) {
                return BAD;
            }
            Enclave own = house.enclaves[fibre.enclave];
            int answer = own.hasMail ? 1 : 0;
            house.note(EVENT_RECEIVE, fibre, answer, 0, 0);
            if (own.hasMail) {
                own.hasMail = false;
                write(fibre, to, own.mail, DIGEST_BYTES);
                write(fibre, to + DIGEST_BYTES, own.sender, DIGEST_BYTES);
            }
            return answer;
        }

        private int countOne(Fibre fibre) {
            int became = house.countUp(house.enclaves[fibre.enclave].measurement);
            if (became != FULL) {
                house.note(EVENT_COUNT, fibre, became, 0, 0);
            }
            return became;
        }

        private int setHandler(Fibre fibre, int handler) {
            if ((handler & 3) != 0) {
                return BAD;
            }
            fibre.handler = handler;
            return 0;
        }

        private int extend(Fibre fibre, int from) {
            if (!reaches(fibre, from, DIGEST_BYTES, MAY_LOAD)) {
                return BAD;
            }
            int[] record = house.enclaves[fibre.enclave].record;
            read(from, DIGEST_BYTES, data, 0);
            house.sha.begin();
            house.sha.feedWords(record, 8);
            house.sha.feedWords(data, 8);
            house.sha.end(record);
            return 0;
        }

        private int answerOfPath(Fibre fibre, int f, int p) {
            boolean owns = devices.pathOwner == fibre.enclave;
            if (f < 45 || f > 48) {
                return BAD;
            }
            if (f == 45) {
                return claim(fibre, owns);
            }
            if (!owns) {
                return STATE;
            }
            if (f == 46) {
                devices.givePath(NONE);
                house.note(EVENT_PATH, fibre, 0, 0, 0);
                return 0;
            }
            if (f == 47) {
                return devices.panel.add(p & 255) ? devices.panel.size : FULL;
            }
            return devices.pathKeys.takeFirst(NO_KEY);
        }

        private int claim(Fibre fibre, boolean owns) {
            if (owns) {
                return STATE;
            }
            if (devices.pathOwner != NONE) {
                return BUSY;
            }
            devices.givePath(fibre.enclave);
            house.note(EVENT_PATH, fibre, 1, 0, 0);
            return 0;
        }
    }
}
