import java.util.List;

/** The promises of the document, one method each, with answers worked out by hand. */
public final class PromiseTest {
    public static void main(String[] args) {
        newObject();
        all();
        zero();
        keep();
        keepRefuses();
        pass();
        back();
        set();
        setRefuses();
        free();
        follow();
        followRefuses();
        meet();
        hull();
        hullOfEmpty();
        copy();
        empty();
        widest();
        has();
        size();
        next();
        within();
        touch();
        Check.end();
    }

    /** A new object whose zone z has just the reading (a, b, c). */
    private static ClockZones point(int z, int a, int b, int c) {
        ClockZones x = new ClockZones();
        putPoint(x, z, a, b, c);
        return x;
    }

    private static void putPoint(ClockZones x, int z, int a, int b, int c) {
        x.zero(z);
        x.set(z, 1, a);
        x.set(z, 2, b);
        x.set(z, 3, c);
    }

    private static ClockZones withEmpty(int z) {
        ClockZones x = new ClockZones();
        x.keep(z, 1, 0, -1);
        return x;
    }

    private static void newObject() {
        ClockZones x = new ClockZones();
        for (int z = 0; z < 3; z++) {
            Check.due("1: size(" + z + ")", x.size(z), 2197);
            Check.due("1: empty(" + z + ")", x.empty(z), 0);
            Check.due("1: has low", x.has(z, 0, 0, 0), 1);
            Check.due("1: has high", x.has(z, 12, 12, 12), 1);
        }
        x.zero(0);
        Check.due("1: another object", new ClockZones().size(0), 2197);
    }

    private static void all() {
        for (int z = 0; z < 3; z++) {
            ClockZones x = withEmpty(z);
            x.zero((z + 1) % 3);
            Check.due("2: all", x.all(z), 0);
            Check.due("2: size", x.size(z), 2197);
            Check.due("2: size of the zero zone", x.size((z + 1) % 3), 1);
            Check.due("2: size of the third zone", x.size((z + 2) % 3), 2197);
            Check.due("2: all again", x.all(z), 0);
            Check.due("2: size again", x.size(z), 2197);
        }
        for (int z : Check.NOT_ZONES) {
            Check.due("2: all(" + z + ")", new ClockZones().all(z), -1);
        }
    }

    private static void zero() {
        for (int z = 0; z < 3; z++) {
            ClockZones x = withEmpty(z);
            Check.due("3: zero of an empty zone", x.zero(z), 0);
            Check.same("3: readings", Check.readings(x, z), List.of(0));
            Check.due("3: size of the next zone", x.size((z + 1) % 3), 2197);
            Check.due("3: size of the third zone", x.size((z + 2) % 3), 2197);
            x.all(z);
            Check.due("3: zero of the full zone", x.zero(z), 0);
            Check.same("3: readings", Check.readings(x, z), List.of(0));
        }
        for (int z : Check.NOT_ZONES) {
            Check.due("3: zero(" + z + ")", new ClockZones().zero(z), -1);
        }
    }

    private static void keep() {
        ClockZones x = new ClockZones();
        Check.due("4: at most 5", x.keep(0, 1, 0, 5), 1);
        Check.due("4: size", x.size(0), 6 * 169);
        Check.due("4: at least 3", x.keep(0, 0, 1, -3), 1);
        Check.due("4: size", x.size(0), 3 * 169);
        Check.due("4: has 5", x.has(0, 5, 0, 12), 1);
        Check.due("4: has 6", x.has(0, 6, 0, 12), 0);
        Check.due("4: has 3", x.has(0, 3, 12, 0), 1);
        Check.due("4: has 2", x.has(0, 2, 12, 0), 0);
        Check.due("4: at most 2", x.keep(0, 1, 0, 2), 0);
        Check.due("4: empty", x.empty(0), 1);
        Check.due("4: keep of an empty zone", x.keep(0, 1, 0, 12), 0);
        Check.due("4: not above clock 2", x.keep(1, 1, 2, 0), 1);
        Check.due("4: size", x.size(1), 91 * 13);
        Check.due("4: the other way", x.keep(1, 2, 1, 0), 1);
        Check.due("4: size", x.size(1), 169);
        Check.due("4: clock 3 far above clock 2", x.keep(2, 2, 3, -12), 1);
        Check.due("4: size", x.size(2), 13);
        Check.due("4: has", x.has(2, 7, 0, 12), 1);
        keepAtTheEdges();
    }

    private static void keepAtTheEdges() {
        for (int i = 0; i <= 3; i++) {
            for (int j = 0; j <= 3; j++) {
                if (i != j) {
                    keepAtTheEdges(i, j);
                }
            }
        }
    }

    private static void keepAtTheEdges(int i, int j) {
        ClockZones x = new ClockZones();
        String call = "4: keep " + i + " " + j;
        Check.due(call + " 12", x.keep(0, i, j, 12), 1);
        Check.due(call + " 12, size", x.size(0), 2197);
        // Clock i must be at 0 and clock j at 12, which clock 0 never is; the others are free.
        int left = j == 0 ? 0 : i == 0 ? 169 : 13;
        Check.due(call + " -12", x.keep(1, i, j, -12), left == 0 ? 0 : 1);
        Check.due(call + " -12, size", x.size(1), left);
        int equal = i == 0 ? 2197 : j == 0 ? 169 : 91 * 13;
        Check.due(call + " 0", x.keep(2, i, j, 0), 1);
        Check.due(call + " 0, size", x.size(2), equal);
    }

    private static void keepRefuses() {
        ClockZones x = new ClockZones();
        for (int z : Check.NOT_ZONES) {
            Check.due("4: keep(" + z + ", ..)", x.keep(z, 1, 2, 3), -1);
            Check.due("4: zone before pair", x.keep(z, 4, 4, 13), -1);
        }
        for (int i : Check.NOT_SIDES) {
            Check.due("4: i = " + i, x.keep(0, i, 1, 3), -2);
            Check.due("4: j = " + i, x.keep(0, 1, i, 3), -2);
            Check.due("4: pair before bound", x.keep(0, i, 1, 13), -2);
        }
        for (int i = 0; i <= 3; i++) {
            Check.due("4: i = j = " + i, x.keep(0, i, i, 0), -2);
        }
        for (int c : Check.NOT_BOUNDS) {
            Check.due("4: c = " + c, x.keep(0, 1, 0, c), -3);
            Check.due("4: c = " + c, x.keep(0, 2, 3, c), -3);
        }
        Check.due("4: size after refusals", x.size(0), 2197);
    }

    private static void pass() {
        ClockZones x = point(0, 3, 0, 7);
        Check.due("5: pass", x.pass(0), 1);
        Check.same("5: readings", Check.readings(x, 0), List.of(
                Check.number(3, 0, 7), Check.number(4, 1, 8), Check.number(5, 2, 9),
                Check.number(6, 3, 10), Check.number(7, 4, 11), Check.number(8, 5, 12)));
        Check.due("5: the other zones", x.size(1) + x.size(2), 2 * 2197);
        for (int z = 0; z < 3; z++) {
            x = point(z, 10, 10, 10);
            Check.due("5: pass to the last reading", x.pass(z), 1);
            Check.same("5: readings", Check.readings(x, z), List.of(1830, 2013, 2196));
        }
        // A clock at 12 lets no time go by, and no clock runs over into the one before it.
        int[][] stuck = {{12, 5, 0}, {0, 12, 5}, {5, 0, 12}, {0, 0, 12}, {0, 12, 0}, {12, 12, 12}};
        for (int[] r : stuck) {
            x = point(1, r[0], r[1], r[2]);
            Check.due("5: pass at 12", x.pass(1), 1);
            Check.same("5: at 12", Check.readings(x, 1), List.of(Check.number(r[0], r[1], r[2])));
        }
        x = new ClockZones();
        Check.due("5: pass of all", x.pass(2), 1);
        Check.due("5: size of all", x.size(2), 2197);
        x = withEmpty(2);
        Check.due("5: pass of an empty zone", x.pass(2), 0);
        Check.due("5: still empty", x.size(2), 0);
        for (int z : Check.NOT_ZONES) {
            Check.due("5: pass(" + z + ")", x.pass(z), -1);
        }
    }

    private static void back() {
        ClockZones x = point(0, 5, 3, 12);
        Check.due("6: back", x.back(0), 1);
        Check.same("6: readings", Check.readings(x, 0), List.of(
                Check.number(2, 0, 9), Check.number(3, 1, 10), Check.number(4, 2, 11),
                Check.number(5, 3, 12)));
        Check.due("6: the other zones", x.size(1) + x.size(2), 2 * 2197);
        int[][] stuck = {{12, 5, 0}, {0, 12, 5}, {5, 0, 12}, {12, 12, 0}, {12, 0, 12}, {0, 0, 0}};
        for (int[] r : stuck) {
            x = point(1, r[0], r[1], r[2]);
            Check.due("6: back at 0", x.back(1), 1);
            Check.same("6: at 0", Check.readings(x, 1), List.of(Check.number(r[0], r[1], r[2])));
        }
        for (int z = 0; z < 3; z++) {
            x = point(z, 2, 2, 2);
            Check.due("6: back to the first reading", x.back(z), 1);
            Check.same("6: readings", Check.readings(x, z), List.of(0, 183, 366));
        }
        x = new ClockZones();
        Check.due("6: back of all", x.back(2), 1);
        Check.due("6: size of all", x.size(2), 2197);
        x = withEmpty(2);
        Check.due("6: back of an empty zone", x.back(2), 0);
        Check.due("6: still empty", x.size(2), 0);
        for (int z : Check.NOT_ZONES) {
            Check.due("6: back(" + z + ")", x.back(z), -1);
        }
    }

    private static void set() {
        int[] steps = {0, 169, 13, 1};
        for (int clock = 1; clock <= 3; clock++) {
            ClockZones x = new ClockZones();
            for (int number = 0; number <= 12; number++) {
                Check.due("7: set " + clock, x.set(0, clock, number), 1);
                Check.due("7: size", x.size(0), 169);
                Check.due("7: widest", x.widest(0, clock, 0), number);
                Check.due("7: least", x.widest(0, 0, clock), -number);
                x.zero(1);
                Check.due("7: set from 0", x.set(1, clock, number), 1);
                Check.same("7: one reading", Check.readings(x, 1), List.of(number * steps[clock]));
            }
            Check.due("7: the third zone", x.size(2), 2197);
        }
        ClockZones x = new ClockZones();
        x.zero(0);
        x.pass(0);
        x.keep(0, 1, 0, 2);
        Check.due("7: set of three readings", x.set(0, 2, 9), 1);
        Check.same("7: they stay three", Check.readings(x, 0), List.of(
                Check.number(0, 9, 0), Check.number(1, 9, 1), Check.number(2, 9, 2)));
        Check.due("7: set of an empty zone", withEmpty(0).set(0, 1, 5), 0);
    }

    private static void setRefuses() {
        ClockZones x = new ClockZones();
        for (int z : Check.NOT_ZONES) {
            Check.due("7: set(" + z + ", ..)", x.set(z, 1, 1), -1);
            Check.due("7: zone before clock", x.set(z, 0, 13), -1);
        }
        for (int clock : Check.NOT_CLOCKS) {
            Check.due("7: clock " + clock, x.set(0, clock, 1), -2);
            Check.due("7: clock before number", x.set(0, clock, 13), -2);
        }
        for (int number : Check.NOT_NUMBERS) {
            Check.due("7: number " + number, x.set(0, 1, number), -3);
            Check.due("7: number " + number, withEmpty(0).set(0, 1, number), -3);
        }
        Check.due("7: size after refusals", x.size(0), 2197);
    }

    private static void free() {
        for (int clock = 1; clock <= 3; clock++) {
            for (int k = 0; k <= 12; k++) {
                ClockZones x = point(2, k, k, k);
                Check.due("8: free from " + k, x.free(2, clock), 1);
                Check.due("8: size", x.size(2), 13);
            }
            ClockZones x = point(0, 4, 7, 9);
            Check.due("8: free " + clock, x.free(0, clock), 1);
            Check.due("8: size", x.size(0), 13);
            for (int k = 0; k <= 12; k++) {
                int a = clock == 1 ? k : 4;
                int b = clock == 2 ? k : 7;
                int c = clock == 3 ? k : 9;
                Check.due("8: has", x.has(0, a, b, c), 1);
            }
            Check.due("8: free again", x.free(0, clock), 1);
            Check.due("8: size", x.size(0), 13);
            Check.due("8: free the next clock", x.free(0, clock % 3 + 1), 1);
            Check.due("8: size", x.size(0), 169);
            Check.due("8: the other zones", x.size(1) + x.size(2), 2 * 2197);
            Check.due("8: free of an empty zone", withEmpty(1).free(1, clock), 0);
        }
        ClockZones x = new ClockZones();
        for (int z : Check.NOT_ZONES) {
            Check.due("8: free(" + z + ", 1)", x.free(z, 1), -1);
            Check.due("8: zone before clock", x.free(z, 0), -1);
        }
        for (int clock : Check.NOT_CLOCKS) {
            Check.due("8: clock " + clock, x.free(0, clock), -2);
        }
    }

    private static void follow() {
        for (int i = 1; i <= 3; i++) {
            for (int j = 1; j <= 3; j++) {
                int[] r = {0, 4, 7, 9};
                ClockZones x = point(0, r[1], r[2], r[3]);
                Check.due("9: follow " + i + " " + j, x.follow(0, i, j), 1);
                r[i] = r[j];
                Check.same("9: reading", Check.readings(x, 0),
                        List.of(Check.number(r[1], r[2], r[3])));
                Check.due("9: follow in all", x.follow(1, i, j), 1);
                Check.due("9: size", x.size(1), i == j ? 2197 : 169);
                Check.due("9: widest", i == j ? 0 : x.widest(1, i, j), 0);
                Check.due("9: widest", i == j ? 0 : x.widest(1, j, i), 0);
                Check.due("9: the third zone", x.size(2), 2197);
                Check.due("9: follow in an empty zone", withEmpty(2).follow(2, i, j), 0);
            }
        }
    }

    private static void followRefuses() {
        ClockZones x = new ClockZones();
        for (int z : Check.NOT_ZONES) {
            Check.due("9: follow(" + z + ", ..)", x.follow(z, 1, 2), -1);
            Check.due("9: zone before clock", x.follow(z, 0, 4), -1);
        }
        for (int clock : Check.NOT_CLOCKS) {
            Check.due("9: i = " + clock, x.follow(0, clock, 1), -2);
            Check.due("9: j = " + clock, x.follow(0, 1, clock), -2);
            Check.due("9: i = j = " + clock, x.follow(0, clock, clock), -2);
        }
        Check.due("9: size after refusals", x.size(0), 2197);
    }

    private static void meet() {
        ClockZones x = new ClockZones();
        x.keep(0, 1, 0, 5);
        x.keep(1, 0, 1, -4);
        Check.due("10: meet", x.meet(0, 1), 1);
        Check.due("10: size of y", x.size(0), 2 * 169);
        Check.due("10: size of z", x.size(1), 9 * 169);
        Check.due("10: has 4", x.has(0, 4, 0, 12), 1);
        Check.due("10: has 6", x.has(0, 6, 0, 12), 0);
        Check.due("10: meet itself", x.meet(0, 0), 1);
        Check.due("10: size", x.size(0), 2 * 169);
        x.zero(2);
        Check.due("10: nothing in both", x.meet(1, 2), 0);
        Check.due("10: y is empty", x.size(1), 0);
        Check.due("10: z is not", x.size(2), 1);
        Check.due("10: meet of an empty zone", x.meet(1, 0), 0);
        Check.due("10: an empty zone met", x.meet(2, 1), 0);
        Check.due("10: empty with itself", x.meet(1, 1), 0);
        for (int z : Check.NOT_ZONES) {
            Check.due("10: meet(0, " + z + ")", x.meet(0, z), -1);
            Check.due("10: meet(" + z + ", 0)", x.meet(z, 0), -1);
            Check.due("10: meet(" + z + ", " + z + ")", x.meet(z, z), -1);
        }
    }

    private static void hull() {
        // (0, 0, 0) and (2, 2, 1) share: clocks 1 and 2 equal, clock 3 at most 1 below, and so on.
        ClockZones x = point(1, 2, 2, 1);
        x.zero(0);
        Check.due("11: hull", x.hull(0, 1), 1);
        Check.same("11: readings", Check.readings(x, 0), List.of(
                Check.number(0, 0, 0), Check.number(1, 1, 0), Check.number(1, 1, 1),
                Check.number(2, 2, 1)));
        Check.same("11: z stays", Check.readings(x, 1), List.of(Check.number(2, 2, 1)));
        Check.due("11: hull with itself", x.hull(0, 0), 1);
        Check.due("11: size", x.size(0), 4);
        // Corners that no difference holds together make all readings.
        x = new ClockZones();
        putPoint(x, 0, 12, 0, 0);
        putPoint(x, 1, 0, 12, 0);
        Check.due("11: hull of two corners", x.hull(0, 1), 1);
        Check.due("11: size", x.size(0), 169);
        putPoint(x, 1, 0, 0, 12);
        Check.due("11: hull with a third", x.hull(0, 1), 1);
        Check.due("11: size", x.size(0), 2197);
        // Within a line of equal clocks only the ends tell.
        x = point(2, 9, 9, 9);
        putPoint(x, 1, 4, 4, 4);
        Check.due("11: hull of a line", x.hull(1, 2), 1);
        Check.same("11: the line", Check.readings(x, 1), List.of(732, 915, 1098, 1281, 1464, 1647));
        for (int z : Check.NOT_ZONES) {
            Check.due("11: hull(0, " + z + ")", x.hull(0, z), -1);
            Check.due("11: hull(" + z + ", 0)", x.hull(z, 0), -1);
        }
    }

    private static void hullOfEmpty() {
        ClockZones x = withEmpty(0);
        x.keep(1, 2, 0, -1);
        Check.due("11: both empty", x.hull(0, 1), 0);
        Check.due("11: size", x.size(0), 0);
        Check.due("11: empty with itself", x.hull(0, 0), 0);
        x.zero(2);
        x.pass(2);
        Check.due("11: z empty", x.hull(2, 0), 1);
        Check.due("11: size", x.size(2), 13);
        Check.due("11: y empty", x.hull(0, 2), 1);
        Check.due("11: size", x.size(0), 13);
        // Bounds measured for one hull must not reach into the next one.
        Check.due("11: an empty hull after a full one", x.hull(1, 1), 0);
        Check.due("11: size", x.size(1), 0);
    }

    private static void copy() {
        ClockZones x = point(0, 4, 7, 9);
        x.pass(0);
        Check.due("12: copy", x.copy(1, 0), 0);
        Check.same("12: y", Check.readings(x, 1), Check.readings(x, 0));
        Check.due("12: size of y", x.size(1), 4);
        Check.due("12: size of z", x.size(0), 4);
        x.keep(1, 1, 0, 5);
        Check.due("12: y goes its own way", x.size(1), 2);
        Check.due("12: z does not come along", x.size(0), 4);
        Check.due("12: copy to itself", x.copy(1, 1), 0);
        Check.due("12: size", x.size(1), 2);
        Check.due("12: copy of all", x.copy(1, 2), 0);
        Check.due("12: size", x.size(1), 2197);
        x.keep(2, 1, 0, -1);
        Check.due("12: copy of an empty zone", x.copy(0, 2), 0);
        Check.due("12: size", x.size(0), 0);
        for (int z : Check.NOT_ZONES) {
            Check.due("12: copy(0, " + z + ")", x.copy(0, z), -1);
            Check.due("12: copy(" + z + ", 0)", x.copy(z, 0), -1);
        }
    }

    private static void empty() {
        for (int z = 0; z < 3; z++) {
            ClockZones x = withEmpty(z);
            Check.due("13: empty", x.empty(z), 1);
            Check.due("13: full", x.empty((z + 1) % 3), 0);
            putPoint(x, z, 12, 12, 12);
            Check.due("13: the last reading alone", x.empty(z), 0);
            x.zero(z);
            Check.due("13: the first reading alone", x.empty(z), 0);
        }
        for (int z : Check.NOT_ZONES) {
            Check.due("13: empty(" + z + ")", new ClockZones().empty(z), -1);
        }
    }

    private static void widest() {
        int[] r = {0, 4, 7, 12};
        ClockZones x = point(1, r[1], r[2], r[3]);
        ClockZones none = withEmpty(1);
        for (int i = 0; i <= 3; i++) {
            for (int j = 0; j <= 3; j++) {
                boolean good = i != j;
                Check.due("14: one reading", x.widest(1, i, j), good ? r[i] - r[j] : -200);
                Check.due("14: all", x.widest(0, i, j), good ? (i == 0 ? 0 : 12) : -200);
                Check.due("14: empty", none.widest(1, i, j), good ? -300 : -200);
            }
        }
        x = point(0, 0, 12, 0);
        Check.due("14: least of all", x.widest(0, 1, 2), -12);
        Check.due("14: least of all", x.widest(0, 0, 2), -12);
        for (int z : Check.NOT_ZONES) {
            Check.due("14: widest(" + z + ", 0, 1)", x.widest(z, 0, 1), -100);
            Check.due("14: zone before pair", x.widest(z, 1, 1), -100);
        }
        for (int i : Check.NOT_SIDES) {
            Check.due("14: i = " + i, x.widest(0, i, 1), -200);
            Check.due("14: j = " + i, x.widest(0, 1, i), -200);
            Check.due("14: pair before empty", none.widest(1, i, 1), -200);
        }
    }

    private static void has() {
        ClockZones x = point(0, 4, 7, 9);
        Check.due("15: has", x.has(0, 4, 7, 9), 1);
        Check.due("15: a", x.has(0, 5, 7, 9), 0);
        Check.due("15: b", x.has(0, 4, 6, 9), 0);
        Check.due("15: c", x.has(0, 4, 7, 10), 0);
        Check.due("15: turned round", x.has(0, 9, 7, 4), 0);
        // The same number 169 * a + 13 * b + c, but not readings.
        Check.due("15: b over 12", x.has(0, 3, 20, 9), 0);
        Check.due("15: c over 12", x.has(0, 4, 6, 22), 0);
        Check.due("15: c below 0", x.has(0, 4, 8, -4), 0);
        for (int n : Check.NOT_NUMBERS) {
            Check.due("15: a = " + n, x.has(1, n, 0, 0), 0);
            Check.due("15: b = " + n, x.has(1, 0, n, 0), 0);
            Check.due("15: c = " + n, x.has(1, 0, 0, n), 0);
            Check.due("15: all = " + n, x.has(1, n, n, n), 0);
            Check.due("15: a = " + n, x.has(1, n, 12, 12), 0);
            Check.due("15: c = " + n, x.has(1, 12, 12, n), 0);
        }
        Check.due("15: in an empty zone", withEmpty(2).has(2, 0, 0, 0), 0);
        for (int z : Check.NOT_ZONES) {
            Check.due("15: has(" + z + ", ..)", x.has(z, 0, 0, 0), -1);
            Check.due("15: zone before reading", x.has(z, 13, -1, 99), -1);
        }
    }

    private static void size() {
        for (int z = 0; z < 3; z++) {
            ClockZones x = new ClockZones();
            Check.due("16: all", x.size(z), 2197);
            x.keep(z, 1, 0, 11);
            Check.due("16: without an end", x.size(z), 2197 - 169);
            x.keep(z, 0, 3, -1);
            Check.due("16: without another", x.size(z), 12 * 13 * 12);
            x.keep(z, 3, 0, 0);
            Check.due("16: none", x.size(z), 0);
            x.zero(z);
            Check.due("16: one", x.size(z), 1);
        }
        for (int z : Check.NOT_ZONES) {
            Check.due("16: size(" + z + ")", new ClockZones().size(z), -1);
        }
    }

    private static void next() {
        ClockZones x = point(0, 4, 7, 9);
        int n = Check.number(4, 7, 9);
        Check.due("17: from below", x.next(0, -1), n);
        Check.due("17: far below", x.next(0, Integer.MIN_VALUE), n);
        Check.due("17: just below", x.next(0, n - 1), n);
        Check.due("17: at it", x.next(0, n), -2);
        Check.due("17: above", x.next(0, n + 1), -2);
        Check.due("17: far above", x.next(0, Integer.MAX_VALUE), -2);
        Check.due("17: all, far below", x.next(1, Integer.MIN_VALUE), 0);
        Check.due("17: all, -2", x.next(1, -2), 0);
        Check.due("17: all, -1", x.next(1, -1), 0);
        Check.due("17: all, 0", x.next(1, 0), 1);
        Check.due("17: all, 2195", x.next(1, 2195), 2196);
        Check.due("17: all, 2196", x.next(1, 2196), -2);
        Check.due("17: all, 2197", x.next(1, 2197), -2);
        Check.due("17: all, far above", x.next(1, Integer.MAX_VALUE), -2);
        Check.due("17: an empty zone", withEmpty(0).next(0, -1), -2);
        for (int z : Check.NOT_ZONES) {
            Check.due("17: next(" + z + ", -1)", x.next(z, -1), -1);
            Check.due("17: next(" + z + ", 9999)", x.next(z, 9999), -1);
        }
    }

    private static void within() {
        ClockZones x = new ClockZones();
        x.keep(0, 1, 0, 5);
        x.keep(1, 1, 0, 6);
        Check.due("18: within", x.within(0, 1), 1);
        Check.due("18: not the other way", x.within(1, 0), 0);
        Check.due("18: itself", x.within(1, 1), 1);
        x.keep(1, 2, 0, 11);
        Check.due("18: some outside", x.within(0, 1), 0);
        x.keep(2, 1, 0, -1);
        Check.due("18: empty within", x.within(2, 0), 1);
        Check.due("18: not within empty", x.within(0, 2), 0);
        Check.due("18: empty within itself", x.within(2, 2), 1);
        putPoint(x, 0, 12, 12, 12);
        x.all(1);
        Check.due("18: the last reading", x.within(0, 1), 1);
        x.zero(1);
        Check.due("18: another reading", x.within(0, 1), 0);
        Check.due("18: the first reading", x.within(1, 0), 0);
        for (int z : Check.NOT_ZONES) {
            Check.due("18: within(0, " + z + ")", x.within(0, z), -1);
            Check.due("18: within(" + z + ", 0)", x.within(z, 0), -1);
            Check.due("18: within an empty zone", x.within(2, z), -1);
        }
    }

    private static void touch() {
        ClockZones x = new ClockZones();
        x.keep(0, 1, 0, 5);
        x.keep(1, 0, 1, -5);
        Check.due("19: touch", x.touch(0, 1), 1);
        Check.due("19: the other way", x.touch(1, 0), 1);
        x.keep(1, 0, 1, -6);
        Check.due("19: side by side", x.touch(0, 1), 0);
        Check.due("19: the other way", x.touch(1, 0), 0);
        Check.due("19: itself", x.touch(0, 0), 1);
        x.keep(2, 1, 0, -1);
        Check.due("19: empty", x.touch(2, 0), 0);
        Check.due("19: with empty", x.touch(0, 2), 0);
        Check.due("19: empty with itself", x.touch(2, 2), 0);
        putPoint(x, 2, 12, 12, 12);
        Check.due("19: the last reading", x.touch(1, 2), 1);
        x.zero(2);
        Check.due("19: the first reading", x.touch(0, 2), 1);
        for (int z : Check.NOT_ZONES) {
            Check.due("19: touch(0, " + z + ")", x.touch(0, z), -1);
            Check.due("19: touch(" + z + ", 0)", x.touch(z, 0), -1);
        }
    }
}
