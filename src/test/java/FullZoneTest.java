/**
 * Promises 1 to 19 at the zone with all readings: a test for each method, with several ways in
 * which a zone can become full, in each of the three zones.
 */
public final class FullZoneTest {
    public static void main(String[] args) {
        Check.test("1: a new object's zones are full", FullZoneTest::newObject);
        full("2: all", (s, z, what) -> staysFull(s, z, what, 0, x -> x.all(z)));
        full("3: zero", FullZoneTest::zeroOfFull);
        full("4: keep", FullZoneTest::keepOfFull);
        full("5: pass", (s, z, what) -> staysFull(s, z, what, 1, x -> x.pass(z)));
        full("6: back", (s, z, what) -> staysFull(s, z, what, 1, x -> x.back(z)));
        full("7: set", FullZoneTest::setOfFull);
        full("8: free", FullZoneTest::freeOfFull);
        full("9: follow", FullZoneTest::followOfFull);
        full("10: meet, y full", FullZoneTest::meetOfFull);
        full("10: meet, z full", FullZoneTest::meetWithFull);
        full("11: hull, y full", FullZoneTest::hullOfFull);
        full("11: hull, z full", FullZoneTest::hullWithFull);
        full("12: copy, y full", FullZoneTest::copyOverFull);
        full("12: copy, z full", FullZoneTest::copyOfFull);
        full("13: empty", FullZoneTest::emptyOfFull);
        full("14: widest", FullZoneTest::widestOfFull);
        full("15: has", (s, z, what) -> Check.zone(what, s.then(z, x -> { }), z, Shape.ALL));
        full("16: size", FullZoneTest::sizeOfFull);
        full("17: next", FullZoneTest::nextOfFull);
        full("18: within", FullZoneTest::withinAndFull);
        full("19: touch", FullZoneTest::touchOfFull);
        Check.end();
    }

    private static void full(String name, ZoneCheck.ZoneTest test) {
        ZoneCheck.test(name + ", the full zone", Shape.FULL, test);
    }

    private static void newObject() {
        for (int z = 0; z < 3; z++) {
            Check.zone("new", ClockZones::new, z, Shape.ALL);
        }
    }

    private static void staysFull(Shape s, int z, String what, int want, ZoneCheck.Step step) {
        ZoneCheck.stepLeaves(s, z, what, want, Shape.ALL, step);
    }

    private static void zeroOfFull(Shape s, int z, String what) {
        ZoneCheck.stepLeaves(s, z, what, 0, Shape.FIRST_ONLY, x -> x.zero(z));
    }

    private static void keepOfFull(Shape s, int z, String what) {
        for (int[] pair : ZoneCheck.PAIRS) {
            int i = pair[0];
            int j = pair[1];
            for (int most = -12; most <= 12; most++) {
                int c = most;
                Shape.Readings kept = ZoneCheck.atMost(i, j, c);
                int size = Shape.count(kept);
                String call = what + " " + i + " " + j + " " + c;
                ClockZones x = s.put(new ClockZones(), z);
                Check.due(call, x.keep(z, i, j, c), size == 0 ? 0 : 1);
                Check.due(call + ", size", x.size(z), size);
                if (c == -12 || c == 12) {
                    ZoneCheck.left(call, s.then(z, y -> y.keep(z, i, j, c)), z, kept);
                }
            }
        }
    }

    private static void setOfFull(Shape s, int z, String what) {
        for (int clock = 1; clock <= 3; clock++) {
            for (int number : new int[] {0, 1, 11, 12}) {
                int k = clock;
                String call = what + " " + k + " " + number;
                Shape.Readings left = ZoneCheck.just(k, 0, number);
                ZoneCheck.stepLeaves(s, z, call, 1, left, x -> x.set(z, k, number));
            }
        }
    }

    private static void freeOfFull(Shape s, int z, String what) {
        for (int clock = 1; clock <= 3; clock++) {
            int k = clock;
            staysFull(s, z, what + " " + k, 1, x -> x.free(z, k));
        }
    }

    private static void followOfFull(Shape s, int z, String what) {
        for (int i = 1; i <= 3; i++) {
            for (int j = 1; j <= 3; j++) {
                int to = i;
                int from = j;
                String call = what + " " + i + " " + j;
                Shape.Readings left = ZoneCheck.just(i, j, 0);
                ZoneCheck.stepLeaves(s, z, call, 1, left, x -> x.follow(z, to, from));
            }
        }
    }

    private static void meetOfFull(Shape s, int z, String what) {
        int other = (z + 1) % 3;
        staysFull(s, z, what + " with a full zone", 1, x -> x.meet(z, other));
        ZoneCheck.withStrip(s, z, other, what, 1, x -> x.meet(z, other),
                Shape.STRIP.readings, Shape.STRIP.readings);
    }

    private static void meetWithFull(Shape s, int z, String what) {
        int other = (z + 2) % 3;
        ZoneCheck.withStrip(s, z, other, what, 1, x -> x.meet(other, z),
                Shape.ALL, Shape.STRIP.readings);
    }

    private static void hullOfFull(Shape s, int z, String what) {
        int other = (z + 1) % 3;
        staysFull(s, z, what + " with a full zone", 1, x -> x.hull(z, other));
        ZoneCheck.withStrip(s, z, other, what, 1, x -> x.hull(z, other),
                Shape.ALL, Shape.STRIP.readings);
    }

    private static void hullWithFull(Shape s, int z, String what) {
        int other = (z + 2) % 3;
        ZoneCheck.withStrip(s, z, other, what, 1, x -> x.hull(other, z),
                Shape.ALL, Shape.ALL);
    }

    private static void copyOverFull(Shape s, int z, String what) {
        int other = (z + 1) % 3;
        ZoneCheck.withStrip(s, z, other, what, 0, x -> x.copy(z, other),
                Shape.STRIP.readings, Shape.STRIP.readings);
    }

    private static void copyOfFull(Shape s, int z, String what) {
        int other = (z + 2) % 3;
        ZoneCheck.withStrip(s, z, other, what, 0, x -> x.copy(other, z),
                Shape.ALL, Shape.ALL);
    }

    private static void emptyOfFull(Shape s, int z, String what) {
        ClockZones x = s.put(new ClockZones(), z);
        Check.due(what, x.empty(z), 0);
        x.keep((z + 1) % 3, 1, 0, -1);
        Check.due(what + ", the next zone", x.empty((z + 1) % 3), 1);
        Check.due(what + " still", x.empty(z), 0);
    }

    private static void widestOfFull(Shape s, int z, String what) {
        ClockZones x = s.put(new ClockZones(), z);
        for (int[] pair : ZoneCheck.PAIRS) {
            String call = what + " " + pair[0] + " " + pair[1];
            Check.due(call, x.widest(z, pair[0], pair[1]), pair[0] == 0 ? 0 : 12);
        }
    }

    private static void sizeOfFull(Shape s, int z, String what) {
        ClockZones x = s.put(new ClockZones(), z);
        x.zero((z + 1) % 3);
        x.keep((z + 2) % 3, 1, 0, -1);
        Check.due(what, x.size(z), 2197);
    }

    private static void nextOfFull(Shape s, int z, String what) {
        ClockZones x = null;
        for (int after = -1; after < 2196; after++) {
            if (after % 400 == 0 || after == -1) {
                x = s.put(new ClockZones(), z);
            }
            Check.due(what + " " + after, x.next(z, after), after + 1);
        }
        for (int after : new int[] {2196, 2197, 6590, Integer.MAX_VALUE}) {
            Check.due(what + " " + after, x.next(z, after), -2);
        }
        for (int after : new int[] {Integer.MIN_VALUE, -2197, -2}) {
            Check.due(what + " " + after, x.next(z, after), 0);
        }
    }

    private static void withinAndFull(Shape s, int z, String what) {
        int other = (z + 1) % 3;
        ClockZones x = s.put(new ClockZones(), z);
        Check.due(what + " in a full one", x.within(z, other), 1);
        Check.due(what + ", a full one in it", x.within(other, z), 1);
        for (int k = 1; k <= 3; k++) {
            x.all(other);
            x.keep(other, k, 0, 11);
            Check.due(what + " in one without a greatest number", x.within(z, other), 0);
            Check.due(what + ", one without a greatest number in it", x.within(other, z), 1);
            x.all(other);
            x.keep(other, 0, k, -1);
            Check.due(what + " in one without a least number", x.within(z, other), 0);
            x.all(other);
            x.keep(other, k, k % 3 + 1, 11);
            Check.due(what + " in one without an edge", x.within(z, other), 0);
        }
    }

    private static void touchOfFull(Shape s, int z, String what) {
        int other = (z + 1) % 3;
        ClockZones x = s.put(new ClockZones(), z);
        Check.due(what + " and a full one", x.touch(z, other), 1);
        for (int n : new int[] {0, 12}) {
            Shape.point(x, other, n, n, n);
            Check.due(what + " and all clocks at " + n, x.touch(z, other), 1);
            Check.due(what + " and all clocks at " + n + ", turned round", x.touch(other, z), 1);
        }
    }
}
