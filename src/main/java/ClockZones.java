/**
 * Sets of clock readings that are described by differences.
 *
 * A zone is held as one flag for each reading, so that every promise of the document is carried
 * out on the readings themselves. The number of a reading (a, b, c) is 169 * a + 13 * b + c.
 */
public final class ClockZones {
    private static final int ZONES = 3;
    private static final int CLOCKS = 3;
    private static final int HIGHEST = 12;
    private static final int VALUES = HIGHEST + 1;
    private static final int STEP_OF_CLOCK_3 = 1;
    private static final int STEP_OF_CLOCK_2 = VALUES;
    private static final int STEP_OF_CLOCK_1 = VALUES * VALUES;
    private static final int STEP_OF_TIME = STEP_OF_CLOCK_1 + STEP_OF_CLOCK_2 + STEP_OF_CLOCK_3;
    private static final int READINGS = VALUES * VALUES * VALUES;
    private static final int FLAGS = ZONES * READINGS;
    private static final int SIDES = CLOCKS + 1;
    private static final int PAIRS = SIDES * SIDES;
    // Less than every difference of two clocks: as a bound it holds for no reading at all.
    private static final int BELOW_ALL = -VALUES;

    private final boolean[] held = new boolean[FLAGS];
    private final int[] bounds = new int[PAIRS];

    public ClockZones() {
        for (int z = 0; z < ZONES; z++) {
            fill(z);
        }
    }

    public int all(int z) {
        if (!isZone(z)) {
            return -1;
        }
        fill(z);
        return 0;
    }

    public int zero(int z) {
        if (!isZone(z)) {
            return -1;
        }
        int base = z * READINGS;
        for (int n = 0; n < READINGS; n++) {
            held[base + n] = n == 0;
        }
        return 0;
    }

    public int keep(int z, int i, int j, int c) {
        if (!isZone(z)) {
            return -1;
        }
        if (!isPair(i, j)) {
            return -2;
        }
        if (c < -HIGHEST || c > HIGHEST) {
            return -3;
        }
        keepDifference(z, i, j, c);
        return oneIfAny(z);
    }

    public int pass(int z) {
        if (!isZone(z)) {
            return -1;
        }
        int base = z * READINGS;
        // Upwards, so that a reading taken in is itself a start for the next step of time.
        for (int n = STEP_OF_TIME; n < READINGS; n++) {
            if (held[base + n - STEP_OF_TIME] && noClockReads(n, 0)) {
                held[base + n] = true;
            }
        }
        return oneIfAny(z);
    }

    public int back(int z) {
        if (!isZone(z)) {
            return -1;
        }
        int base = z * READINGS;
        // Downwards, for the same reason for which pass goes upwards.
        for (int n = READINGS - 1 - STEP_OF_TIME; n >= 0; n--) {
            if (held[base + n + STEP_OF_TIME] && noClockReads(n, HIGHEST)) {
                held[base + n] = true;
            }
        }
        return oneIfAny(z);
    }

    public int set(int z, int clock, int number) {
        if (!isZone(z)) {
            return -1;
        }
        if (!isClock(clock)) {
            return -2;
        }
        if (!isNumber(number)) {
            return -3;
        }
        // A freed clock reads every number, so keeping one number sets it.
        freeClock(z, clock);
        keepDifference(z, clock, 0, number);
        keepDifference(z, 0, clock, -number);
        return oneIfAny(z);
    }

    public int free(int z, int clock) {
        if (!isZone(z)) {
            return -1;
        }
        if (!isClock(clock)) {
            return -2;
        }
        freeClock(z, clock);
        return oneIfAny(z);
    }

    public int follow(int z, int i, int j) {
        if (!isZone(z)) {
            return -1;
        }
        if (!isClock(i) || !isClock(j)) {
            return -2;
        }
        // Freeing a clock that follows itself would lose the number it has.
        if (i != j) {
            freeClock(z, i);
            keepDifference(z, i, j, 0);
            keepDifference(z, j, i, 0);
        }
        return oneIfAny(z);
    }

    public int meet(int y, int z) {
        if (!isZone(y) || !isZone(z)) {
            return -1;
        }
        int baseY = y * READINGS;
        int baseZ = z * READINGS;
        for (int n = 0; n < READINGS; n++) {
            held[baseY + n] = held[baseY + n] && held[baseZ + n];
        }
        return oneIfAny(y);
    }

    public int hull(int y, int z) {
        if (!isZone(y) || !isZone(z)) {
            return -1;
        }
        join(y, z);
        measure(y);
        fillToBounds(y);
        return oneIfAny(y);
    }

    public int copy(int y, int z) {
        if (!isZone(y) || !isZone(z)) {
            return -1;
        }
        int baseY = y * READINGS;
        int baseZ = z * READINGS;
        for (int n = 0; n < READINGS; n++) {
            held[baseY + n] = held[baseZ + n];
        }
        return 0;
    }

    public int empty(int z) {
        if (!isZone(z)) {
            return -1;
        }
        return 1 - oneIfAny(z);
    }

    public int widest(int z, int i, int j) {
        if (!isZone(z)) {
            return -100;
        }
        if (!isPair(i, j)) {
            return -200;
        }
        int greatest = greatestDifference(z, i, j);
        return greatest == BELOW_ALL ? -300 : greatest;
    }

    public int has(int z, int a, int b, int c) {
        if (!isZone(z)) {
            return -1;
        }
        if (!isNumber(a) || !isNumber(b) || !isNumber(c)) {
            return 0;
        }
        int n = a * STEP_OF_CLOCK_1 + b * STEP_OF_CLOCK_2 + c * STEP_OF_CLOCK_3;
        return held[z * READINGS + n] ? 1 : 0;
    }

    public int size(int z) {
        if (!isZone(z)) {
            return -1;
        }
        int base = z * READINGS;
        int count = 0;
        for (int n = 0; n < READINGS; n++) {
            if (held[base + n]) {
                count++;
            }
        }
        return count;
    }

    public int next(int z, int after) {
        if (!isZone(z)) {
            return -1;
        }
        int base = z * READINGS;
        // Every number is compared with after, as after + 1 may wrap around.
        for (int n = 0; n < READINGS; n++) {
            if (n > after && held[base + n]) {
                return n;
            }
        }
        return -2;
    }

    public int within(int y, int z) {
        if (!isZone(y) || !isZone(z)) {
            return -1;
        }
        int baseY = y * READINGS;
        int baseZ = z * READINGS;
        for (int n = 0; n < READINGS; n++) {
            if (held[baseY + n] && !held[baseZ + n]) {
                return 0;
            }
        }
        return 1;
    }

    public int touch(int y, int z) {
        if (!isZone(y) || !isZone(z)) {
            return -1;
        }
        int baseY = y * READINGS;
        int baseZ = z * READINGS;
        for (int n = 0; n < READINGS; n++) {
            if (held[baseY + n] && held[baseZ + n]) {
                return 1;
            }
        }
        return 0;
    }

    private static boolean isZone(int z) {
        return z >= 0 && z < ZONES;
    }

    private static boolean isClock(int clock) {
        return clock >= 1 && clock <= CLOCKS;
    }

    private static boolean isPair(int i, int j) {
        return i >= 0 && i <= CLOCKS && j >= 0 && j <= CLOCKS && i != j;
    }

    private static boolean isNumber(int number) {
        return number >= 0 && number <= HIGHEST;
    }

    private static int stepOf(int clock) {
        switch (clock) {
            case 1:
                return STEP_OF_CLOCK_1;
            case 2:
                return STEP_OF_CLOCK_2;
            default:
                return STEP_OF_CLOCK_3;
        }
    }

    /** What a clock, 0 .. 3, reads in the reading with the number n. */
    private static int read(int n, int clock) {
        switch (clock) {
            case 1:
                return n / STEP_OF_CLOCK_1;
            case 2:
                return n / STEP_OF_CLOCK_2 % VALUES;
            case 3:
                return n % VALUES;
            default:
                return 0;
        }
    }

    private static int difference(int n, int i, int j) {
        return read(n, i) - read(n, j);
    }

    private static boolean noClockReads(int n, int number) {
        return read(n, 1) != number && read(n, 2) != number && read(n, 3) != number;
    }

    private int oneIfAny(int z) {
        int base = z * READINGS;
        for (int n = 0; n < READINGS; n++) {
            if (held[base + n]) {
                return 1;
            }
        }
        return 0;
    }

    private void fill(int z) {
        int base = z * READINGS;
        for (int n = 0; n < READINGS; n++) {
            held[base + n] = true;
        }
    }

    private void keepDifference(int z, int i, int j, int c) {
        int base = z * READINGS;
        for (int n = 0; n < READINGS; n++) {
            if (difference(n, i, j) > c) {
                held[base + n] = false;
            }
        }
    }

    private void freeClock(int z, int clock) {
        for (int n = 0; n < READINGS; n++) {
            // Each line of readings along the clock is met once, at its first reading.
            if (read(n, clock) == 0) {
                freeLine(z, n, clock);
            }
        }
    }

    private void freeLine(int z, int first, int clock) {
        int start = z * READINGS + first;
        int step = stepOf(clock);
        boolean any = false;
        for (int k = 0; k < VALUES; k++) {
            any = any || held[start + k * step];
        }
        for (int k = 0; k < VALUES; k++) {
            held[start + k * step] = any;
        }
    }

    private void join(int y, int z) {
        int baseY = y * READINGS;
        int baseZ = z * READINGS;
        for (int n = 0; n < READINGS; n++) {
            held[baseY + n] = held[baseY + n] || held[baseZ + n];
        }
    }

    /** The greatest difference in a reading of the zone, or BELOW_ALL if the zone is empty. */
    private int greatestDifference(int z, int i, int j) {
        int base = z * READINGS;
        int greatest = BELOW_ALL;
        for (int n = 0; n < READINGS; n++) {
            int d = difference(n, i, j);
            if (held[base + n] && d > greatest) {
                greatest = d;
            }
        }
        return greatest;
    }

    private void measure(int z) {
        for (int i = 0; i < SIDES; i++) {
            for (int j = 0; j < SIDES; j++) {
                bounds[i * SIDES + j] = greatestDifference(z, i, j);
            }
        }
    }

    private void fillToBounds(int z) {
        int base = z * READINGS;
        for (int n = 0; n < READINGS; n++) {
            held[base + n] = keepsBounds(n);
        }
    }

    private boolean keepsBounds(int n) {
        for (int i = 0; i < SIDES; i++) {
            for (int j = 0; j < SIDES; j++) {
                if (difference(n, i, j) > bounds[i * SIDES + j]) {
                    return false;
                }
            }
        }
        return true;
    }
}
