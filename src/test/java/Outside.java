import java.util.ArrayList;
import java.util.List;

/** OUTSIDE, reckoned as the document says from what a test knows of a house; at first that is a new one. */
final class Outside {
    private static final int COMPARE = 8;

    /** By places / 4; what is not OPEN is 0 here. */
    final int[] words = new int[32768];
    final int[][] x = new int[2][32];
    final int[] pc = new int[2];
    final int[] mode = {1, 1};
    final int[] waits = new int[2];
    final int[] thread = {-1, -1};
    /** STATUS, ENABLED, TVEC, SCRATCH, EPC, CAUSE, TVAL, bit 1 of PENDING, COMPARE, ATP, SLICE. */
    final int[][] controls = new int[2][11];
    int time;
    /** SORT, base, size. */
    final int[][] regions = new int[12][3];
    /** State, GENERATION. */
    final int[][] enclaves = new int[6][2];
    final int[] threads = new int[12];
    final List<Integer> console = new ArrayList<>();
    final int[] disk = new int[2048];
    int waiting;
    int done;
    int failed;
    int path = -1;
    final List<Integer> keys = new ArrayList<>();
    int off;
    private long number;

    Outside() {
        controls[0][COMPARE] = -1;
        controls[1][COMPARE] = -1;
    }

    private void put(int... numbers) {
        for (int v : numbers) {
            number = number * 6364136223846793005L + v + 1;
        }
    }

    private void put(List<Integer> row) {
        put(row.size());
        for (int v : row) {
            put(v);
        }
    }

    long number() {
        number = 1;
        put(words);
        for (int hart = 0; hart < 2; hart++) {
            for (int n = 1; n < 32; n++) {
                put(x[hart][n]);
            }
            put(pc[hart], mode[hart], waits[hart], thread[hart]);
            put(controls[hart]);
        }
        put(time);
        for (int[] region : regions) {
            put(region[0]);
            if (region[0] != 0) {
                put(region[1], region[2]);
            }
        }
        for (int[] enclave : enclaves) {
            put(enclave);
        }
        put(threads);
        put(console);
        put(disk);
        put(waiting, done, failed, path);
        put(keys);
        put(off);
        return number;
    }
}
