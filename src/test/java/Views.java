/** What the face shows of a house, put together so that two houses can be compared. */
final class Views {
    private Views() {
    }

    /** Within some 240 calls, so that a test has calls left. */
    static String all(EnclaveHouse house) {
        StringBuilder text = new StringBuilder();
        text.append("outside ").append(house.outside());
        text.append(" pending ").append(house.control(0, 0x144)).append(' ').append(house.control(1, 0x144));
        return text.append(ofMonitor(house)).toString();
    }

    /** Without the system's registers and MEMORY that is OPEN. */
    static String ofMonitor(EnclaveHouse house) {
        StringBuilder text = new StringBuilder();
        for (int what = 1; what < 23; what++) {
            if (what < 8 || what > 15) {
                text.append(" count").append(what).append(' ').append(house.count(what));
            }
        }
        putEnclaves(house, text);
        putThreads(house, text);
        putRegions(house, text);
        int last = house.count(5) - 1;
        text.append(" last event");
        for (int what = 0; what < 8; what++) {
            text.append(' ').append(house.event(last, what));
        }
        return text.toString();
    }

    private static void putEnclaves(EnclaveHouse house, StringBuilder text) {
        for (int i = 0; i < 6; i++) {
            int state = house.enclave(i, 0);
            text.append(" enclave").append(i).append(' ').append(state).append(' ').append(house.enclave(i, 5));
            for (int what = 1; what < 8 && state != 0; what++) {
                text.append(' ').append(house.enclave(i, what));
            }
        }
    }

    private static void putThreads(EnclaveHouse house, StringBuilder text) {
        for (int i = 0; i < 12; i++) {
            int state = house.thread(i, 0);
            text.append(" thread").append(i).append(' ').append(state);
            for (int what = 1; what < 5 && state != 0; what++) {
                text.append(' ').append(house.thread(i, what));
            }
        }
    }

    private static void putRegions(EnclaveHouse house, StringBuilder text) {
        for (int i = 0; i < 12; i++) {
            int sort = house.region(i, 0);
            text.append(" region").append(i).append(' ').append(sort);
            for (int what = 1; what < 6 && sort != 0; what++) {
                text.append(' ').append(house.region(i, what));
            }
            // A SHARED REGION is OPEN, and so comes into outside().
            if (sort != 0 && sort != 2) {
                text.append(' ').append(house.inner(house.region(i, 1)));
            }
        }
    }
}
