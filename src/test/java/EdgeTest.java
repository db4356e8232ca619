import java.util.ArrayList;
import java.util.List;

/**
 * The edges inside the promises: where time stops, the last bound that leaves a reading, zones
 * that share one reading or lack one, and a difference that is just met.
 */
public final class EdgeTest {
    private static final Shape[] SHAPES = {Shape.FULL[0], Shape.DIAGONAL, Shape.LINE, Shape.STRIP,
        Shape.BOX, Shape.at(0, 5, 12)};

    public static void main(String[] args) {
        Check.test("5: pass of every reading: 0 may be added, and no clock goes past 12",
                () -> everyReading(1));
        Check.test("6: back of every reading: 0 may be taken, and no clock goes below 0",
                () -> everyReading(-1));
        Check.test("5: pass again adds nothing", EdgeTest::passTwice);
        Check.test("6: back again adds nothing", EdgeTest::backTwice);
        ZoneCheck.test("4: keep, the least bound that leaves readings", SHAPES, EdgeTest::least);
        ZoneCheck.test("4: keep, the greatest bound that loses one", SHAPES, EdgeTest::greatest);
        ZoneCheck.test("14: widest is met by a reading", SHAPES, EdgeTest::widest);
        Check.test("11: hull, a difference with clock 0 holds too", EdgeTest::hullAtClockZero);
        Check.test("11: hull, nothing beyond the differences", EdgeTest::hullOfNeighbours);
        Check.test("18: within, one reading lacks", EdgeTest::withinButOne);
        Check.test("19: touch, one reading is shared", EdgeTest::touchAtOne);
        Check.test("10: meet, one reading is shared", EdgeTest::meetAtOne);
        Check.test("7: set, readings that become the same", EdgeTest::setJoins);
        Check.test("9: follow, readings that become the same", EdgeTest::followJoins);
        Check.test("8: free, a clock that is free already", EdgeTest::freeAgain);
        Check.end();
    }

    private static void everyReading(int direction) {
        for (int n = 0; n < 2197; n++) {
            int[] r = Model.clocks(n);
            int z = n % 3;
            ClockZones x = Shape.at(r[1], r[2], r[3]).put(new ClockZones(), z);
            String what = (direction > 0 ? "pass" : "back") + " from the reading " + n;
            Check.due(what, direction > 0 ? x.pass(z) : x.back(z), 1);
            Check.same(what, Check.readings(x, z), timeLine(r, direction));
            Check.due(what + ", the next zone", x.size((z + 1) % 3), 2197);
        }
    }

    private static List<Integer> timeLine(int[] r, int direction) {
        List<Integer> line = new ArrayList<>();
        for (int time = 0; time <= 12; time++) {
            int a = r[1] + direction * time;
            int b = r[2] + direction * time;
            int c = r[3] + direction * time;
            int least = Math.min(a, Math.min(b, c));
            int greatest = Math.max(a, Math.max(b, c));
            if (least >= 0 && greatest <= 12) {
                line.add(Check.number(a, b, c));
            }
        }
        line.sort(null);
        return line;
    }

    private static void passTwice() {
        ClockZones x = Shape.BOX.put(new ClockZones(), 0);
        Check.due("pass", x.pass(0), 1);
        List<Integer> once = Check.readings(x, 0);
        Check.due("pass again", x.pass(0), 1);
        Check.same("readings", Check.readings(x, 0), once);
    }

    private static void backTwice() {
        ClockZones x = Shape.BOX.put(new ClockZones(), 2);
        Check.due("back", x.back(2), 1);
        List<Integer> once = Check.readings(x, 2);
        Check.due("back again", x.back(2), 1);
        Check.same("readings", Check.readings(x, 2), once);
    }

    /** The differences clock i less clock j in the shape, least and greatest. */
    private static int[] range(Shape s, int i, int j) {
        int least = 99;
        int greatest = -99;
        for (int n = 0; n < 2197; n++) {
            int[] r = Model.clocks(n);
            if (s.readings.have(r[1], r[2], r[3])) {
                least = Math.min(least, r[i] - r[j]);
                greatest = Math.max(greatest, r[i] - r[j]);
            }
        }
        return new int[] {least, greatest};
    }

    private static void least(Shape s, int z, String what) {
        for (int[] pair : ZoneCheck.PAIRS) {
            int i = pair[0];
            int j = pair[1];
            int c = range(s, i, j)[0];
            String call = what + " " + i + " " + j + " " + c;
            ClockZones x = s.put(new ClockZones(), z);
            Check.due(call, x.keep(z, i, j, c), 1);
            Check.due(call + ", size", x.size(z) >= 1 ? 1 : 0, 1);
            if (c > -12) {
                x = s.put(new ClockZones(), z);
                Check.due(call + " less 1", x.keep(z, i, j, c - 1), 0);
                Check.due(call + " less 1, size", x.size(z), 0);
            }
        }
    }

    private static void greatest(Shape s, int z, String what) {
        int size = Shape.count(s.readings);
        for (int[] pair : ZoneCheck.PAIRS) {
            int i = pair[0];
            int j = pair[1];
            int c = range(s, i, j)[1];
            String call = what + " " + i + " " + j + " " + c;
            ClockZones x = s.put(new ClockZones(), z);
            Check.due(call, x.keep(z, i, j, c), 1);
            Check.due(call + ", size", x.size(z), size);
            if (c > -12) {
                x.keep(z, i, j, c - 1);
                Check.due(call + " less 1, some are lost", x.size(z) < size ? 1 : 0, 1);
            }
        }
    }

    private static void widest(Shape s, int z, String what) {
        for (int[] pair : ZoneCheck.PAIRS) {
            ClockZones x = s.put(new ClockZones(), z);
            int want = range(s, pair[0], pair[1])[1];
            Check.due(what + " " + pair[0] + " " + pair[1], x.widest(z, pair[0], pair[1]), want);
        }
    }

    private static ClockZones twoPoints(int[] r, int[] t) {
        ClockZones x = new ClockZones();
        Shape.point(x, 0, r[0], r[1], r[2]);
        Shape.point(x, 1, t[0], t[1], t[2]);
        return x;
    }

    private static void hullAtClockZero() {
        // Equal clocks leave only the differences with clock 0 to bound the line at its two ends.
        ClockZones x = twoPoints(new int[] {3, 3, 3}, new int[] {5, 5, 5});
        Check.due("hull", x.hull(0, 1), 1);
        Check.same("readings", Check.readings(x, 0), List.of(549, 732, 915));
        x = twoPoints(new int[] {0, 0, 0}, new int[] {1, 1, 1});
        Check.due("hull at the first reading", x.hull(1, 0), 1);
        Check.same("readings", Check.readings(x, 1), List.of(0, 183));
        x = twoPoints(new int[] {11, 11, 11}, new int[] {12, 12, 12});
        Check.due("hull at the last reading", x.hull(0, 1), 1);
        Check.same("readings", Check.readings(x, 0), List.of(2013, 2196));
    }

    private static void hullOfNeighbours() {
        ClockZones x = twoPoints(new int[] {5, 5, 5}, new int[] {5, 5, 6});
        Check.due("along clock 3", x.hull(0, 1), 1);
        Check.same("readings", Check.readings(x, 0), List.of(915, 916));
        // (1, 0, 0) and (0, 1, 0): the bounds of each clock let in (0, 0, 0) and (1, 1, 0).
        x = twoPoints(new int[] {1, 0, 0}, new int[] {0, 1, 0});
        Check.due("across", x.hull(0, 1), 1);
        Check.same("readings", Check.readings(x, 0), List.of(0, 13, 169, 182));
    }

    private static void withinButOne() {
        for (int k = 1; k <= 3; k++) {
            ClockZones x = Shape.DIAGONAL.put(new ClockZones(), 0);
            x.copy(1, 0);
            x.keep(1, 0, k, -1);
            Check.due("the first lacks", x.within(0, 1), 0);
            Check.due("the first lacks, turned round", x.within(1, 0), 1);
            x.copy(1, 0);
            x.keep(1, k, 0, 11);
            Check.due("the last lacks", x.within(0, 1), 0);
            Check.due("the last lacks, turned round", x.within(1, 0), 1);
            x.copy(1, 0);
            Check.due("none lacks", x.within(0, 1), 1);
        }
    }

    /** Zones 0 and 1 are two parts of the line of equal clocks, up to n and from m on. */
    private static ClockZones twoParts(int n, int m) {
        ClockZones x = Shape.DIAGONAL.put(new ClockZones(), 0);
        x.copy(1, 0);
        x.keep(0, 1, 0, n);
        x.keep(1, 0, 2, -m);
        return x;
    }

    private static void touchAtOne() {
        for (int n = 0; n <= 12; n++) {
            Check.due("shared at " + n, twoParts(n, n).touch(0, 1), 1);
            Check.due("shared at " + n + ", turned round", twoParts(n, n).touch(1, 0), 1);
            if (n < 12) {
                Check.due("side by side at " + n, twoParts(n, n + 1).touch(0, 1), 0);
                Check.due("side by side, turned round", twoParts(n, n + 1).touch(1, 0), 0);
            }
        }
    }

    private static void meetAtOne() {
        for (int n = 0; n <= 12; n++) {
            ClockZones x = twoParts(n, n);
            Check.due("shared at " + n, x.meet(0, 1), 1);
            Check.same("readings", Check.readings(x, 0), List.of(183 * n));
            Check.due("z stays", x.size(1), 13 - n);
            if (n < 12) {
                x = twoParts(n, n + 1);
                Check.due("side by side at " + n, x.meet(1, 0), 0);
                Check.due("nothing is left", x.size(1), 0);
                Check.due("z stays", x.size(0), n + 1);
            }
        }
    }

    private static void setJoins() {
        for (int k = 1; k <= 3; k++) {
            int clock = k;
            for (int number : new int[] {0, 12}) {
                ZoneCheck.stepLeaves(Shape.DIAGONAL, 0, "set " + k + " to " + number, 1,
                        (a, b, c) -> clock == 1 ? a == number && b == c
                                : clock == 2 ? b == number && a == c : c == number && a == b,
                        x -> x.set(0, clock, number));
            }
        }
        ClockZones x = new ClockZones();
        x.keep(0, 1, 0, 0);
        x.keep(0, 2, 0, 0);
        Check.due("a line along the clock", x.size(0), 13);
        Check.due("becomes", x.set(0, 3, 4), 1);
        Check.same("one reading", Check.readings(x, 0), List.of(4));
    }

    private static void followJoins() {
        ClockZones x = new ClockZones();
        x.set(0, 1, 12);
        x.set(0, 2, 0);
        Check.due("a line along clock 3", x.size(0), 13);
        Check.due("follows clock 1", x.follow(0, 3, 1), 1);
        Check.same("one reading", Check.readings(x, 0), List.of(Check.number(12, 0, 12)));
        x.free(0, 3);
        Check.due("follows clock 2", x.follow(0, 3, 2), 1);
        Check.same("one reading", Check.readings(x, 0), List.of(Check.number(12, 0, 0)));
    }

    private static void freeAgain() {
        for (int k = 1; k <= 3; k++) {
            ClockZones x = Shape.LINE.put(new ClockZones(), 1);
            Check.due("free", x.free(1, k), 1);
            List<Integer> once = Check.readings(x, 1);
            Check.due("free again", x.free(1, k), 1);
            Check.same("readings", Check.readings(x, 1), once);
            Check.due("how many", once.size(), 4 * 13);
        }
    }
}
