import java.util.List;

/**
 * Promises 2 to 19 at a zone of one reading: a test for each method at the first reading
 * (0, 0, 0), one at the last (12, 12, 12), and one at the other readings of 0 and 12 alone.
 */
public final class CornerTest {
    private interface ReadingTest {
        void in(Shape shape, int[] r, int z, String what);
    }

    // As in the document's terms, the number of clock k stands at k, and that of clock 0 is 0.
    private static final int[] FIRST = {0, 0, 0, 0};
    private static final int[] LAST = {0, 12, 12, 12};
    private static final int[][] OTHERS = {{0, 0, 0, 12}, {0, 0, 12, 0}, {0, 0, 12, 12},
        {0, 12, 0, 0}, {0, 12, 0, 12}, {0, 12, 12, 0}};

    public static void main(String[] args) {
        corner("2: all", CornerTest::all);
        corner("3: zero", CornerTest::zero);
        corner("4: keep, just what leaves it", CornerTest::keepLeaves);
        corner("4: keep, just what does not", CornerTest::keepLosesIt);
        corner("5: pass", CornerTest::pass);
        corner("6: back", CornerTest::back);
        corner("7: set", CornerTest::set);
        corner("8: free", CornerTest::free);
        corner("9: follow", CornerTest::follow);
        corner("10: meet", CornerTest::meet);
        corner("11: hull with a far reading", CornerTest::hull);
        corner("11: hull with the reading itself", CornerTest::hullOfOneReading);
        corner("12: copy", CornerTest::copy);
        corner("13: empty", CornerTest::empty);
        corner("14: widest", CornerTest::widest);
        corner("15: has", (s, r, z, what) -> Check.zone(what, s.then(z, x -> { }), z, s.readings));
        corner("16: size", CornerTest::size);
        corner("17: next", CornerTest::next);
        corner("18: within", CornerTest::within);
        corner("19: touch", CornerTest::touch);
        Check.end();
    }

    private static void corner(String name, ReadingTest test) {
        Check.test(name + ", the first reading", () -> each(name, Shape.FIRST, FIRST, test));
        Check.test(name + ", the last reading", () -> each(name, Shape.LAST, LAST, test));
        Check.test(name + ", the other corners", () -> {
            for (int[] r : OTHERS) {
                each(name, new Shape[] {Shape.at(r[1], r[2], r[3])}, r, test);
            }
        });
    }

    private static void each(String name, Shape[] shapes, int[] r, ReadingTest test) {
        for (Shape shape : shapes) {
            for (int z = 0; z < 3; z++) {
                test.in(shape, r, z, name + " in zone " + z + ", " + shape.name);
            }
        }
    }

    private static int number(int[] r) {
        return Check.number(r[1], r[2], r[3]);
    }

    private static int[] opposite(int[] r) {
        return new int[] {0, 12 - r[1], 12 - r[2], 12 - r[3]};
    }

    private static ClockZones with(Shape s, int z, int other, int[] r) {
        ClockZones x = s.put(new ClockZones(), z);
        Shape.point(x, other, r[1], r[2], r[3]);
        return x;
    }

    private static void readings(String what, ClockZones x, int z, Integer... numbers) {
        Check.same(what + ", readings", Check.readings(x, z), List.of(numbers));
    }

    private static void all(Shape s, int[] r, int z, String what) {
        ZoneCheck.stepLeaves(s, z, what, 0, Shape.ALL, x -> x.all(z));
    }

    private static void zero(Shape s, int[] r, int z, String what) {
        ZoneCheck.stepLeaves(s, z, what, 0, Shape.FIRST_ONLY, x -> x.zero(z));
    }

    private static void keepLeaves(Shape s, int[] r, int z, String what) {
        for (int[] pair : ZoneCheck.PAIRS) {
            for (int c = r[pair[0]] - r[pair[1]]; c <= 12; c++) {
                ClockZones x = s.put(new ClockZones(), z);
                String call = what + " " + pair[0] + " " + pair[1] + " " + c;
                Check.due(call, x.keep(z, pair[0], pair[1], c), 1);
                readings(call, x, z, number(r));
            }
        }
    }

    private static void keepLosesIt(Shape s, int[] r, int z, String what) {
        for (int[] pair : ZoneCheck.PAIRS) {
            for (int c = r[pair[0]] - r[pair[1]] - 1; c >= -12; c--) {
                ClockZones x = s.put(new ClockZones(), z);
                String call = what + " " + pair[0] + " " + pair[1] + " " + c;
                Check.due(call, x.keep(z, pair[0], pair[1], c), 0);
                readings(call, x, z);
            }
        }
        Check.due(what + ", the others", s.put(new ClockZones(), z).size((z + 1) % 3), 2197);
    }

    private static void pass(Shape s, int[] r, int z, String what) {
        boolean first = number(r) == 0;
        ZoneCheck.stepLeaves(s, z, what, 1, first ? Shape.EQUAL : s.readings, x -> x.pass(z));
    }

    private static void back(Shape s, int[] r, int z, String what) {
        boolean last = number(r) == 2196;
        ZoneCheck.stepLeaves(s, z, what, 1, last ? Shape.EQUAL : s.readings, x -> x.back(z));
    }

    private static void set(Shape s, int[] r, int z, String what) {
        for (int clock = 1; clock <= 3; clock++) {
            for (int number = 0; number <= 12; number++) {
                ClockZones x = s.put(new ClockZones(), z);
                int[] want = r.clone();
                want[clock] = number;
                String call = what + " " + clock + " " + number;
                Check.due(call, x.set(z, clock, number), 1);
                readings(call, x, z, number(want));
            }
        }
    }

    private static void free(Shape s, int[] r, int z, String what) {
        for (int clock = 1; clock <= 3; clock++) {
            int k = clock;
            Shape.Readings line = (a, b, c) -> (k == 1 || a == r[1]) && (k == 2 || b == r[2])
                    && (k == 3 || c == r[3]);
            ZoneCheck.stepLeaves(s, z, what + " " + k, 1, line, x -> x.free(z, k));
        }
    }

    private static void follow(Shape s, int[] r, int z, String what) {
        for (int i = 1; i <= 3; i++) {
            for (int j = 1; j <= 3; j++) {
                ClockZones x = s.put(new ClockZones(), z);
                int[] want = r.clone();
                want[i] = want[j];
                String call = what + " " + i + " " + j;
                Check.due(call, x.follow(z, i, j), 1);
                readings(call, x, z, number(want));
            }
        }
    }

    private static void meet(Shape s, int[] r, int z, String what) {
        int other = (z + 1) % 3;
        ClockZones x = s.put(new ClockZones(), z);
        Check.due(what + " with all", x.meet(z, other), 1);
        readings(what + " with all", x, z, number(r));
        Check.due(what + ", all with it", x.meet(other, z), 1);
        readings(what + ", all with it", x, other, number(r));
        x = with(s, z, other, opposite(r));
        Check.due(what + " with a far one", x.meet(z, other), 0);
        readings(what + " with a far one", x, z);
        readings(what + " with a far one, z", x, other, number(opposite(r)));
    }

    private static void hull(Shape s, int[] r, int z, String what) {
        int other = (z + 2) % 3;
        for (int k = 1; k <= 3; k++) {
            int[] far = r.clone();
            far[k] = 12 - r[k];
            ClockZones x = with(s, z, other, far);
            Check.due(what + " along clock " + k, x.hull(z, other), 1);
            Check.due(what + " along clock " + k + ", size", x.size(z), 13);
            Check.due(what + ", it", x.has(z, r[1], r[2], r[3]), 1);
            Check.due(what + ", the far one", x.has(z, far[1], far[2], far[3]), 1);
            readings(what + ", z", x, other, number(far));
        }
        if (number(r) == 0 || number(r) == 2196) {
            int[] far = opposite(r);
            Check.due(what, with(s, z, other, far).hull(z, other), 1);
            Check.zone(what, s.then(z, x -> {
                Shape.point(x, other, far[1], far[2], far[3]);
                x.hull(z, other);
            }), z, Shape.EQUAL);
        }
    }

    private static void hullOfOneReading(Shape s, int[] r, int z, String what) {
        int other = (z + 1) % 3;
        ClockZones x = with(s, z, other, r);
        Check.due(what, x.hull(z, other), 1);
        readings(what, x, z, number(r));
        readings(what + ", z", x, other, number(r));
    }

    private static void copy(Shape s, int[] r, int z, String what) {
        int other = (z + 2) % 3;
        ClockZones x = s.put(new ClockZones(), z);
        Check.due(what, x.copy(other, z), 0);
        readings(what, x, other, number(r));
        readings(what + ", z", x, z, number(r));
        Check.due(what + ", the third", x.size((z + 1) % 3), 2197);
    }

    private static void empty(Shape s, int[] r, int z, String what) {
        Check.due(what, s.put(new ClockZones(), z).empty(z), 0);
    }

    private static void widest(Shape s, int[] r, int z, String what) {
        ClockZones x = s.put(new ClockZones(), z);
        for (int[] pair : ZoneCheck.PAIRS) {
            String call = what + " " + pair[0] + " " + pair[1];
            Check.due(call, x.widest(z, pair[0], pair[1]), r[pair[0]] - r[pair[1]]);
        }
    }

    private static void size(Shape s, int[] r, int z, String what) {
        Check.due(what, s.put(new ClockZones(), z).size(z), 1);
    }

    private static void next(Shape s, int[] r, int z, String what) {
        ClockZones x = s.put(new ClockZones(), z);
        int n = number(r);
        for (int after : new int[] {Integer.MIN_VALUE, Integer.MIN_VALUE + 1, -2, -1, n - 1}) {
            Check.due(what + " " + after, x.next(z, after), n);
        }
        for (int after : new int[] {n, n + 1, 2196, 2197, Integer.MAX_VALUE}) {
            Check.due(what + " " + after, x.next(z, after), -2);
        }
    }

    private static void within(Shape s, int[] r, int z, String what) {
        int other = (z + 1) % 3;
        ClockZones x = s.put(new ClockZones(), z);
        Check.due(what + " all", x.within(z, other), 1);
        Check.due(what + ", all in it", x.within(other, z), 0);
        x = with(s, z, other, r);
        Check.due(what + " the same", x.within(z, other), 1);
        Check.due(what + ", the same in it", x.within(other, z), 1);
        x = with(s, z, other, opposite(r));
        Check.due(what + " a far one", x.within(z, other), 0);
        Check.due(what + ", a far one in it", x.within(other, z), 0);
    }

    private static void touch(Shape s, int[] r, int z, String what) {
        int other = (z + 2) % 3;
        ClockZones x = s.put(new ClockZones(), z);
        Check.due(what + " all", x.touch(z, other), 1);
        Check.due(what + ", all and it", x.touch(other, z), 1);
        x = with(s, z, other, r);
        Check.due(what + " the same", x.touch(z, other), 1);
        x = with(s, z, other, opposite(r));
        Check.due(what + " a far one", x.touch(z, other), 0);
        Check.due(what + ", a far one and it", x.touch(other, z), 0);
    }
}
