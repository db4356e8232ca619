import java.util.List;
import java.util.function.Supplier;

/**
 * Promises 2 to 19 at the empty zone: a test for each method, with each way in which a zone can
 * become empty, in each of the three zones.
 */
public final class EmptyZoneTest {
    public static void main(String[] args) {
        empty("2: all", EmptyZoneTest::allOfEmpty);
        empty("3: zero", EmptyZoneTest::zeroOfEmpty);
        empty("4: keep", EmptyZoneTest::keepOfEmpty);
        empty("5: pass", (s, z, what) -> staysEmpty(s, z, what, x -> x.pass(z)));
        empty("6: back", (s, z, what) -> staysEmpty(s, z, what, x -> x.back(z)));
        empty("7: set", EmptyZoneTest::setOfEmpty);
        empty("8: free", EmptyZoneTest::freeOfEmpty);
        empty("9: follow", EmptyZoneTest::followOfEmpty);
        empty("10: meet, y empty", EmptyZoneTest::meetOfEmpty);
        empty("10: meet, z empty", EmptyZoneTest::meetWithEmpty);
        empty("11: hull, y empty", EmptyZoneTest::hullOfEmpty);
        empty("11: hull, z empty", EmptyZoneTest::hullWithEmpty);
        empty("11: hull, both empty", EmptyZoneTest::hullOfTwoEmpty);
        empty("12: copy, y empty", EmptyZoneTest::copyOverEmpty);
        empty("12: copy, z empty", EmptyZoneTest::copyOfEmpty);
        empty("13: empty", EmptyZoneTest::emptyOfEmpty);
        empty("14: widest", EmptyZoneTest::widestOfEmpty);
        empty("15: has", (s, z, what) -> Check.zone(what, s.then(z, x -> { }), z, Shape.NONE));
        empty("16: size", EmptyZoneTest::sizeOfEmpty);
        empty("17: next", EmptyZoneTest::nextOfEmpty);
        empty("18: within", EmptyZoneTest::withinAndEmpty);
        empty("19: touch", EmptyZoneTest::touchOfEmpty);
        Check.end();
    }

    private static void empty(String name, ZoneCheck.ZoneTest test) {
        ZoneCheck.test(name + ", the empty zone", Shape.EMPTY, test);
    }

    private static void staysEmpty(Shape s, int z, String what, ZoneCheck.Step step) {
        ZoneCheck.stepLeaves(s, z, what, 0, Shape.NONE, step);
    }

    private static void allOfEmpty(Shape s, int z, String what) {
        ZoneCheck.stepLeaves(s, z, what, 0, Shape.ALL, x -> x.all(z));
    }

    private static void zeroOfEmpty(Shape s, int z, String what) {
        ZoneCheck.stepLeaves(s, z, what, 0, Shape.FIRST_ONLY, x -> x.zero(z));
    }

    private static void keepOfEmpty(Shape s, int z, String what) {
        for (int[] pair : ZoneCheck.PAIRS) {
            ClockZones x = s.put(new ClockZones(), z);
            for (int c = -12; c <= 12; c++) {
                String call = what + " " + pair[0] + " " + pair[1] + " " + c;
                Check.due(call, x.keep(z, pair[0], pair[1], c), 0);
            }
            Check.due(what + ", size", x.size(z), 0);
        }
        staysEmpty(s, z, what, x -> x.keep(z, 1, 0, 12));
    }

    private static void setOfEmpty(Shape s, int z, String what) {
        for (int clock = 1; clock <= 3; clock++) {
            ClockZones x = s.put(new ClockZones(), z);
            for (int number = 0; number <= 12; number++) {
                String call = what + " " + clock + " " + number;
                Check.due(call, x.set(z, clock, number), 0);
            }
            int changed = clock;
            staysEmpty(s, z, what, y -> y.set(z, changed, 0));
        }
    }

    private static void freeOfEmpty(Shape s, int z, String what) {
        for (int clock = 1; clock <= 3; clock++) {
            int freed = clock;
            staysEmpty(s, z, what + " " + clock, x -> x.free(z, freed));
        }
        ClockZones x = s.put(new ClockZones(), z);
        x.free(z, 1);
        x.free(z, 2);
        Check.due(what + " of all clocks", x.free(z, 3), 0);
    }

    private static void followOfEmpty(Shape s, int z, String what) {
        for (int i = 1; i <= 3; i++) {
            for (int j = 1; j <= 3; j++) {
                int left = i;
                int right = j;
                staysEmpty(s, z, what + " " + i + " " + j, x -> x.follow(z, left, right));
            }
        }
    }

    private static void meetOfEmpty(Shape s, int z, String what) {
        int other = (z + 1) % 3;
        staysEmpty(s, z, what + " with a full zone", x -> x.meet(z, other));
        ZoneCheck.withStrip(s, z, other, what, 0, x -> x.meet(z, other),
                Shape.NONE, Shape.STRIP.readings);
    }

    private static void meetWithEmpty(Shape s, int z, String what) {
        int other = (z + 2) % 3;
        Check.due(what + ", y full", s.put(new ClockZones(), z).meet(other, z), 0);
        ZoneCheck.withStrip(s, z, other, what, 0, x -> x.meet(other, z),
                Shape.NONE, Shape.NONE);
    }

    private static void hullOfEmpty(Shape s, int z, String what) {
        int other = (z + 1) % 3;
        String withFull = what + " with a full zone";
        ZoneCheck.stepLeaves(s, z, withFull, 1, Shape.ALL, x -> x.hull(z, other));
        ZoneCheck.withStrip(s, z, other, what, 1, x -> x.hull(z, other),
                Shape.STRIP.readings, Shape.STRIP.readings);
    }

    private static void hullWithEmpty(Shape s, int z, String what) {
        int other = (z + 2) % 3;
        String yFull = what + ", y full";
        ZoneCheck.stepLeaves(s, z, yFull, 1, Shape.NONE, x -> x.hull(other, z));
        ZoneCheck.withStrip(s, z, other, what, 1, x -> x.hull(other, z),
                Shape.NONE, Shape.STRIP.readings);
    }

    private static void hullOfTwoEmpty(Shape s, int z, String what) {
        int other = (z + 1) % 3;
        Supplier<ClockZones> made = s.then(z, x -> x.keep(other, 2, 0, -1));
        Check.due(what, made.get().hull(z, other), 0);
        Check.due(what + ", the other way", made.get().hull(other, z), 0);
        Check.zone(what, s.then(z, x -> {
            x.keep(other, 2, 0, -1);
            x.hull(other, z);
        }), other, Shape.NONE);
    }

    private static void copyOverEmpty(Shape s, int z, String what) {
        int other = (z + 1) % 3;
        ZoneCheck.stepLeaves(s, z, what, 0, Shape.ALL, x -> x.copy(z, other));
        ZoneCheck.withStrip(s, z, other, what, 0, x -> x.copy(z, other),
                Shape.STRIP.readings, Shape.STRIP.readings);
    }

    private static void copyOfEmpty(Shape s, int z, String what) {
        int other = (z + 2) % 3;
        Supplier<ClockZones> made = ZoneCheck.due(s, z, what, 0, x -> x.copy(other, z));
        Check.zone(what, made, other, Shape.NONE);
        Check.zone(what + ", z", made, z, Shape.NONE);
        Check.due(what + ", the third", made.get().size((z + 1) % 3), 2197);
    }

    private static void emptyOfEmpty(Shape s, int z, String what) {
        ClockZones x = s.put(new ClockZones(), z);
        Check.due(what, x.empty(z), 1);
        Check.due(what + ", the next zone", x.empty((z + 1) % 3), 0);
        Check.due(what + ", the one after", x.empty((z + 2) % 3), 0);
        x.zero(z);
        Check.due(what + ", no longer", x.empty(z), 0);
    }

    private static void widestOfEmpty(Shape s, int z, String what) {
        ClockZones x = s.put(new ClockZones(), z);
        for (int[] pair : ZoneCheck.PAIRS) {
            String call = what + " " + pair[0] + " " + pair[1];
            Check.due(call, x.widest(z, pair[0], pair[1]), -300);
        }
        for (int i : new int[] {-1, 0, 1, 2, 3, 4}) {
            Check.due(what + ", the pair is looked at first", x.widest(z, i, i), -200);
        }
    }

    private static void sizeOfEmpty(Shape s, int z, String what) {
        ClockZones x = s.put(new ClockZones(), z);
        Check.due(what, x.size(z), 0);
        Check.due(what + ", the next zone", x.size((z + 1) % 3), 2197);
        Check.due(what + ", the one after", x.size((z + 2) % 3), 2197);
    }

    private static void nextOfEmpty(Shape s, int z, String what) {
        ClockZones x = s.put(new ClockZones(), z);
        for (int after : List.of(Integer.MIN_VALUE, -2, -1, 0, 1, 1000, 2195, 2196, 2197,
                Integer.MAX_VALUE)) {
            Check.due(what + " " + after, x.next(z, after), -2);
        }
    }

    private static void withinAndEmpty(Shape s, int z, String what) {
        int other = (z + 1) % 3;
        int third = (z + 2) % 3;
        ClockZones x = s.put(new ClockZones(), z);
        x.keep(third, 3, 0, -1);
        Check.due(what + " in a full one", x.within(z, other), 1);
        Check.due(what + ", a full one in it", x.within(other, z), 0);
        Check.due(what + " in an empty one", x.within(z, third), 1);
        Check.due(what + ", an empty one in it", x.within(third, z), 1);
        x.zero(other);
        Check.due(what + " in the first reading", x.within(z, other), 1);
        Check.due(what + ", the first reading in it", x.within(other, z), 0);
        Shape.point(x, other, 12, 12, 12);
        Check.due(what + " in the last reading", x.within(z, other), 1);
        Check.due(what + ", the last reading in it", x.within(other, z), 0);
    }

    private static void touchOfEmpty(Shape s, int z, String what) {
        int other = (z + 1) % 3;
        int third = (z + 2) % 3;
        ClockZones x = s.put(new ClockZones(), z);
        x.keep(third, 3, 0, -1);
        Check.due(what + " and a full one", x.touch(z, other), 0);
        Check.due(what + " and a full one, turned round", x.touch(other, z), 0);
        Check.due(what + " and an empty one", x.touch(z, third), 0);
        x.zero(other);
        Check.due(what + " and the first reading", x.touch(z, other), 0);
        Check.due(what + " and the first reading, turned round", x.touch(other, z), 0);
    }
}
