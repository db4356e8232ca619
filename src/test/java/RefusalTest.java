import java.util.Arrays;
import java.util.List;
import java.util.stream.IntStream;

/**
 * "a zone is good if it is 0 .. 2, a clock if it is 1 .. 3, a pair (i, j) if i and j are in 0 .. 3
 * and different", the numbers of keep and set, and "In every method the tests are made in the
 * order named": a test for each argument of each method, and one for the order.
 */
public final class RefusalTest {
    private static final int CALLS = 400;

    public static void main(String[] args) {
        for (int m = 0; m < Methods.NAMES.length; m++) {
            for (int k = 0; k < Methods.arguments(m); k++) {
                if (Methods.kind(m, k) != 'a') {
                    argument(m, k);
                }
            }
            wholeCalls(m);
        }
        Check.test("follow: a clock that follows itself must be good too",
                RefusalTest::followOfOneWrongClock);
        Check.test("two zones, the same wrong one twice", RefusalTest::oneWrongZoneTwice);
        Check.end();
    }

    private static void argument(int m, int k) {
        char kind = Methods.kind(m, k);
        String name = "-" + Methods.NAMES[m] + "-, argument " + (k + 1) + ": ";
        Check.test(name + "just too small", () -> wrongAlone(m, k, Methods.justTooSmall(kind)));
        Check.test(name + "just too large", () -> wrongAlone(m, k, Methods.justTooLarge(kind)));
        Check.test(name + "far outside", () -> wrongAlone(m, k, Methods.FAR));
        int[] inside = Methods.good(kind);
        Check.test(name + "least that is good", () -> goodCalls(m, k, inside[0]));
        Check.test(name + "greatest that is good",
                () -> goodCalls(m, k, inside[inside.length - 1]));
    }

    private static void wholeCalls(int m) {
        String name = "-" + Methods.NAMES[m] + "-: ";
        if (Methods.hasPair(m)) {
            Check.test(name + "the two clocks of a pair are different", () -> equalPair(m));
        }
        if (Methods.KINDS[m].replace("a", "").length() > 1) {
            Check.test(name + "the tests are made in the order named", () -> order(m));
        }
        if (Methods.KINDS[m].contains("a")) {
            Check.test(name + "no int is refused but a zone", () -> anyInts(m));
        }
    }

    private static List<int[]> around(int m, int k, int... values) {
        List<int[]> calls = Methods.callsWith(m, k, values);
        if (Methods.hasPair(m)) {
            calls.removeIf(p -> p[1] == p[2]);
        }
        return calls;
    }

    private static void wrongAlone(int m, int k, int... values) {
        refused(m, around(m, k, values), Methods.refusal(m, Methods.kind(m, k)));
    }

    private static void refused(int m, List<int[]> calls, int want) {
        ClockZones x = null;
        for (int n = 0; n < calls.size(); n++) {
            if (n % CALLS == 0) {
                x = new ClockZones();
            }
            int[] p = calls.get(n);
            Check.due(Methods.told(m, p), Methods.answer(x, m, p), want);
        }
    }

    /** On new objects, so that the answer tells of the zone with all readings. */
    private static void goodCalls(int m, int k, int value) {
        for (int[] p : around(m, k, value)) {
            int got = Methods.answer(new ClockZones(), m, p);
            int want = new Model().call(m, Arrays.copyOf(p, 4));
            Check.due(Methods.told(m, p), got, want);
        }
    }

    private static void equalPair(int m) {
        int[] zones = Methods.good('z');
        for (int i = -1; i <= 4; i++) {
            int[] side = {i};
            int[] bounds = Methods.good('b');
            List<int[]> calls = m == Methods.named("keep")
                    ? Methods.calls(zones, side, side, bounds) : Methods.calls(zones, side, side);
            refused(m, calls, Methods.refusal(m, 's'));
        }
    }

    private static int[] goodAndWrong(char kind) {
        int[] wrong = {Methods.justTooSmall(kind), Methods.justTooLarge(kind),
            Integer.MIN_VALUE, Integer.MAX_VALUE};
        IntStream good = Arrays.stream(Methods.good(kind));
        return IntStream.concat(good, Arrays.stream(wrong)).distinct().toArray();
    }

    private static int wrongArguments(int m, int[] p) {
        int count = Methods.hasPair(m) && p[1] == p[2] ? 1 : 0;
        for (int k = 0; k < p.length; k++) {
            count += Methods.isGood(Methods.kind(m, k), p[k]) ? 0 : 1;
        }
        return count;
    }

    private static void order(int m) {
        int[][] choice = new int[Methods.arguments(m)][];
        for (int k = 0; k < choice.length; k++) {
            choice[k] = goodAndWrong(Methods.kind(m, k));
        }
        List<int[]> calls = Methods.calls(choice);
        calls.removeIf(p -> wrongArguments(m, p) < 2);
        for (int[] p : calls) {
            refused(m, List.of(p), Methods.dueRefusal(m, p));
        }
    }

    private static void anyInts(int m) {
        for (int[] p : around(m, 0, Methods.good('z'))) {
            int got = Methods.answer(new ClockZones(), m, p);
            // -2 of next says that there is no such reading.
            Check.same(Methods.told(m, p) + " refused", got == -1 || got < -2, false);
        }
    }

    private static void followOfOneWrongClock() {
        for (int clock : new int[] {0, 4, -1, Integer.MIN_VALUE, Integer.MAX_VALUE}) {
            for (int z = 0; z < 3; z++) {
                ClockZones x = new ClockZones();
                Check.due("follow(" + z + ", " + clock + " twice)", x.follow(z, clock, clock), -2);
            }
        }
    }

    private static void oneWrongZoneTwice() {
        for (int m = 0; m < Methods.NAMES.length; m++) {
            if (Methods.KINDS[m].equals("zz")) {
                for (int z : Check.NOT_ZONES) {
                    refused(m, List.of(new int[] {z, z}), -1);
                }
            }
        }
    }
}
