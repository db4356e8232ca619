import java.util.ArrayList;
import java.util.List;
import java.util.function.Supplier;

/** What the tests share: counting wrong answers, and looking at whole zones. */
final class Check {
    static final int[] NOT_ZONES = {-1, 3, 4, Integer.MIN_VALUE, Integer.MAX_VALUE};
    static final int[] NOT_CLOCKS = {0, -1, 4, Integer.MIN_VALUE, Integer.MAX_VALUE};
    static final int[] NOT_SIDES = {-1, 4, 5, Integer.MIN_VALUE, Integer.MAX_VALUE};
    static final int[] NOT_NUMBERS = {-1, 13, 25, Integer.MIN_VALUE, Integer.MAX_VALUE};
    static final int[] NOT_BOUNDS = {-13, 13, 25, Integer.MIN_VALUE, Integer.MAX_VALUE};

    private static final int READINGS = 2197;
    private static final int TOLD_AT_MOST = 20;
    // So many questions leave room, within the 512 calls of an object, for what led up to them.
    private static final int QUESTIONS = 400;

    private static int wrong = 0;
    private static int asked = 0;
    private static int tests = 0;
    private static int toldFrom = 0;

    private Check() {
    }

    /** A test of its own for one sentence of the document, which the name tells. */
    static void test(String name, Runnable body) {
        int wrongBefore = wrong;
        int askedBefore = asked;
        toldFrom = wrong;
        tests++;
        try {
            body.run();
        } catch (RuntimeException e) {
            tellWrong("threw " + e);
        }
        if (asked == askedBefore) {
            tellWrong("looked at nothing");
        }
        if (wrong != wrongBefore) {
            System.out.println("TEST FAILED: " + name);
        }
    }

    static void due(String what, long got, long want) {
        asked++;
        if (got != want) {
            tellWrong(what + " answered " + got + ", due is " + want);
        }
    }

    static void same(String what, Object got, Object want) {
        asked++;
        if (!got.equals(want)) {
            tellWrong(what + " is " + got + ", due is " + want);
        }
    }

    private static void tellWrong(String what) {
        wrong++;
        if (wrong - toldFrom <= TOLD_AT_MOST) {
            System.out.println(what);
        }
    }

    /** All readings of all zones; a zone that is not full must be small enough for 512 calls. */
    static List<List<Integer>> state(ClockZones x) {
        List<List<Integer>> zones = new ArrayList<>();
        for (int z = 0; z < 3; z++) {
            int size = x.size(z);
            zones.add(size == READINGS ? List.of(size) : readings(x, z));
        }
        return zones;
    }

    /** The zone's readings as numbers, in order; only for zones small enough for 512 calls. */
    static List<Integer> readings(ClockZones x, int z) {
        List<Integer> numbers = new ArrayList<>();
        int n = x.next(z, -1);
        while (n >= 0 && numbers.size() < 300) {
            numbers.add(n);
            n = x.next(z, n);
        }
        return numbers;
    }

    /** Asks for every reading; the object is made anew so that no call is past its 512th. */
    static void zone(String what, Supplier<ClockZones> made, int z, Shape.Readings want) {
        ClockZones x = made.get();
        due(what + ": size(" + z + ")", x.size(z), Shape.count(want));
        for (int n = 0; n < READINGS; n++) {
            if (n % QUESTIONS == 0) {
                x = made.get();
            }
            int a = n / 169;
            int b = n / 13 % 13;
            int c = n % 13;
            String asks = what + ": has(" + z + ", " + a + ", " + b + ", " + c + ")";
            due(asks, x.has(z, a, b, c), want.have(a, b, c) ? 1 : 0);
        }
    }

    static int number(int a, int b, int c) {
        return 169 * a + 13 * b + c;
    }

    static void end() {
        String counted = tests == 0 ? "" : tests + " tests, ";
        System.out.println(counted + asked + " answers looked at, " + wrong + " wrong");
        if (wrong != 0 || asked == 0) {
            System.exit(1);
        }
    }
}
