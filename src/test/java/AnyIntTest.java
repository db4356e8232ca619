import java.util.List;

/** "a, b and c may be any ints" of has, and "(any int)" of next. */
public final class AnyIntTest {
    private static final int[] EDGES = {Integer.MIN_VALUE, Integer.MIN_VALUE + 1, -256, -13, -1, 0,
        12, 13, 25, 256, 65536, Integer.MAX_VALUE - 1, Integer.MAX_VALUE};

    public static void main(String[] args) {
        Check.test("15: has of the full zone, edges at every place", () -> hasEdges(true));
        Check.test("15: has of the empty zone, edges at every place", () -> hasEdges(false));
        for (int k = 0; k < 3; k++) {
            int place = k;
            String name = "15: has, number " + (k + 1) + " ";
            Check.test(name + "just too small", () -> hasOutside(place, -1));
            Check.test(name + "just too large", () -> hasOutside(place, 13));
            Check.test(name + "the least int", () -> hasOutside(place, Integer.MIN_VALUE));
            Check.test(name + "the greatest int", () -> hasOutside(place, Integer.MAX_VALUE));
        }
        Check.test("15: has, not a reading but with the number of one", AnyIntTest::sameNumber);
        Check.test("15: has, the number of a reading by wrap-around", AnyIntTest::wrappedNumber);
        Check.test("15: has, in the place of another zone's reading", AnyIntTest::otherZone);
        Check.test("17: next after the least int", () -> nextFromBelow(Integer.MIN_VALUE));
        Check.test("17: next after the least int but one",
                () -> nextFromBelow(Integer.MIN_VALUE + 1));
        Check.test("17: next after -2", () -> nextFromBelow(-2));
        Check.test("17: next after -1", () -> nextFromBelow(-1));
        Check.test("17: next after the greatest int", () -> nextFromAbove(Integer.MAX_VALUE));
        Check.test("17: next after the greatest int but one",
                () -> nextFromAbove(Integer.MAX_VALUE - 1));
        Check.test("17: next after 2197", () -> nextFromAbove(2197));
        Check.test("17: next after the last reading, 2196", () -> nextFromAbove(2196));
        Check.test("17: next is greater than after, not the same", AnyIntTest::nextOfLine);
        Check.test("17: next does not go on into another zone", AnyIntTest::nextStaysInZone);
        Check.end();
    }

    private static void hasEdges(boolean full) {
        for (int a : EDGES) {
            for (int b : EDGES) {
                ClockZones x = new ClockZones();
                for (int z = 0; z < 3 && !full; z++) {
                    x.keep(z, 1, 0, -1);
                }
                for (int c : EDGES) {
                    boolean reading = inside(a) && inside(b) && inside(c);
                    for (int z = 0; z < 3; z++) {
                        String call = "has(" + z + ", " + a + ", " + b + ", " + c + ")";
                        Check.due(call, x.has(z, a, b, c), full && reading ? 1 : 0);
                    }
                }
            }
        }
    }

    private static boolean inside(int number) {
        return number == 0 || number == 12;
    }

    private static void hasOutside(int place, int number) {
        for (int u = 0; u <= 12; u++) {
            ClockZones x = new ClockZones();
            for (int v = 0; v <= 12; v++) {
                int[] r = {u, v, v};
                r[place] = number;
                r[(place + 1) % 3] = u;
                for (int z = 0; z < 3; z++) {
                    String call = "has(" + z + ", " + r[0] + ", " + r[1] + ", " + r[2] + ")";
                    Check.due(call, x.has(z, r[0], r[1], r[2]), 0);
                }
            }
        }
    }

    private static void sameNumber() {
        for (int z = 0; z < 3; z++) {
            ClockZones x = new ClockZones();
            for (int n : new int[] {0, 12, 13, 168, 169, 1000, 2184, 2195, 2196}) {
                int a = n / 169;
                int b = n / 13 % 13;
                int c = n % 13;
                Check.due("the reading " + n, x.has(z, a, b, c), 1);
                Check.due("a less, b more", x.has(z, a - 1, b + 13, c), 0);
                Check.due("a more, b less", x.has(z, a + 1, b - 13, c), 0);
                Check.due("b less, c more", x.has(z, a, b - 1, c + 13), 0);
                Check.due("b more, c less", x.has(z, a, b + 1, c - 13), 0);
                Check.due("a less, c more", x.has(z, a - 1, b, c + 169), 0);
                Check.due("a more, c less", x.has(z, a + 1, b, c - 169), 0);
                Check.due("c alone", x.has(z, 0, 0, n), n <= 12 ? 1 : 0);
            }
        }
    }

    private static void wrappedNumber() {
        ClockZones x = new ClockZones();
        for (int a : new int[] {13, 100000000, 25413201, -25413201, 1 << 30, Integer.MIN_VALUE}) {
            // In int arithmetic 169 * a + 13 * b + c is 5 in each of these.
            Check.due("c makes up for a", x.has(0, a, 0, 5 - 169 * a), 0);
            Check.due("b makes up for a", x.has(1, a, -13 * a, 5), 0);
            Check.due("c makes up for b", x.has(2, 0, a, 5 - 13 * a), 0);
        }
        // 169 and 13 times these are 1 in int arithmetic.
        Check.due("a wraps to 1", x.has(0, inverse(169), 0, 0), 0);
        Check.due("b wraps to 1", x.has(0, 0, inverse(13), 0), 0);
    }

    private static int inverse(int odd) {
        int y = odd;
        for (int k = 0; k < 5; k++) {
            y *= 2 - odd * y;
        }
        return y;
    }

    private static void otherZone() {
        ClockZones x = new ClockZones();
        x.zero(0);
        x.zero(2);
        Check.due("13 on from zone 0", x.has(0, 13, 0, 0), 0);
        Check.due("26 on from zone 0", x.has(0, 26, 0, 0), 0);
        Check.due("13 back from zone 2", x.has(2, -1, 12, 12), 0);
        Check.due("-13 back from zone 2", x.has(2, -13, 0, 0), 0);
        Check.due("13 on from zone 1", x.has(1, 13, 0, 0), 0);
        Check.due("13 back from zone 1", x.has(1, -13, 0, 0), 0);
    }

    private static void nextFromBelow(int after) {
        for (int z = 0; z < 3; z++) {
            ClockZones x = new ClockZones();
            Check.due("full, after " + after, x.next(z, after), 0);
            Shape.point(x, z, 12, 12, 12);
            Check.due("the last reading, after " + after, x.next(z, after), 2196);
            x.zero(z);
            Check.due("the first reading, after " + after, x.next(z, after), 0);
            x.keep(z, 1, 0, 0);
            x.set(z, 2, 1);
            Check.due("(0, 1, 0), after " + after, x.next(z, after), 13);
            x.keep(z, 2, 0, 0);
            Check.due("empty, after " + after, x.next(z, after), -2);
        }
    }

    private static void nextFromAbove(int after) {
        for (int z = 0; z < 3; z++) {
            ClockZones x = new ClockZones();
            Check.due("full, after " + after, x.next(z, after), -2);
            Shape.point(x, z, 12, 12, 12);
            Check.due("the last reading, after " + after, x.next(z, after), -2);
            x.zero(z);
            Check.due("the first reading, after " + after, x.next(z, after), -2);
            x.keep(z, 0, 1, -1);
            Check.due("empty, after " + after, x.next(z, after), -2);
        }
    }

    private static void nextOfLine() {
        List<Integer> line = List.of(776, 959, 1142, 1325);
        ClockZones x = null;
        for (int after = -3; after <= 2200; after++) {
            if ((after + 3) % 400 == 0) {
                x = Shape.LINE.put(new ClockZones(), 1);
            }
            int least = after;
            int want = line.stream().filter(n -> n > least).findFirst().orElse(-2);
            Check.due("next(1, " + after + ")", x.next(1, after), want);
        }
    }

    private static void nextStaysInZone() {
        ClockZones x = new ClockZones();
        x.zero(0);
        x.zero(1);
        x.keep(2, 1, 0, -1);
        Check.due("zone 0", x.next(0, 0), -2);
        Check.due("zone 1", x.next(1, 0), -2);
        Check.due("zone 2", x.next(2, -1), -2);
        Check.due("zone 1, from far below", x.next(1, -2198), 0);
        x.keep(1, 0, 1, -1);
        Check.due("zone 1, empty, from far below", x.next(1, -2198), -2);
        x.all(2);
        Check.due("zone 1, empty beside a full one", x.next(1, -1), -2);
    }
}
