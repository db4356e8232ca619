import java.util.function.Consumer;
import java.util.function.Supplier;

/** A zone that a test starts from: how it comes about, and which readings it has. */
final class Shape {
    /** Makes the zone z of a new object; the other zones have all readings before and after. */
    interface Make {
        void in(ClockZones x, int z);
    }

    interface Readings {
        boolean have(int a, int b, int c);
    }

    static final Readings ALL = (a, b, c) -> true;
    static final Readings NONE = (a, b, c) -> false;
    static final Readings FIRST_ONLY = (a, b, c) -> a == 0 && b == 0 && c == 0;
    static final Readings LAST_ONLY = (a, b, c) -> a == 12 && b == 12 && c == 12;
    static final Readings EQUAL = (a, b, c) -> a == b && b == c;

    static final Shape[] FULL = {
        new Shape("new", ALL, (x, z) -> { }),
        new Shape("all again", ALL, Shape::emptiedThenAll),
        new Shape("all clocks freed", ALL, Shape::freed),
        new Shape("kept whole", ALL, Shape::keptWhole),
        new Shape("the hull of three corners", ALL, Shape::hullOfCorners)};

    static final Shape[] EMPTY = {
        new Shape("kept below 0", NONE, (x, z) -> x.keep(z, 1, 0, -1)),
        new Shape("kept round three clocks", NONE, Shape::keptRound),
        new Shape("kept under a set number", NONE, Shape::keptUnderNumber),
        new Shape("met with nothing in both", NONE, Shape::metApart),
        new Shape("a copy of an empty zone", NONE, Shape::copyOfEmpty),
        new Shape("the hull of no readings", NONE, Shape::hullOfNothing),
        new Shape("empty and changed again", NONE, Shape::emptyThenChanged)};

    static final Shape[] FIRST = {
        new Shape("zero", FIRST_ONLY, (x, z) -> x.zero(z)),
        new Shape("each clock set to 0", FIRST_ONLY, (x, z) -> point(x, z, 0, 0, 0)),
        new Shape("each clock kept at 0", FIRST_ONLY, Shape::keptAtZero)};

    static final Shape[] LAST = {
        new Shape("each clock set to 12", LAST_ONLY, (x, z) -> point(x, z, 12, 12, 12)),
        new Shape("each clock kept at 12", LAST_ONLY, Shape::keptAtTwelve),
        new Shape("time gone by to the end", LAST_ONLY, Shape::passedToTheEnd)};

    static final Shape DIAGONAL = new Shape("equal clocks", EQUAL, Shape::diagonal);
    static final Shape LINE = new Shape("time after (4, 7, 9)",
            (a, b, c) -> b == a + 3 && c == a + 5 && a >= 4, Shape::line);
    static final Shape STRIP = new Shape("clock 1 under clock 2 and not far under clock 3",
            (a, b, c) -> a - b <= -2 && c - a <= 5, Shape::strip);
    static final Shape BOX = new Shape("a box in a corner",
            (a, b, c) -> a >= 10 && b <= 2 && c >= 6 && c <= 7, Shape::box);

    final String name;
    final Readings readings;
    private final Make make;

    private Shape(String name, Readings readings, Make make) {
        this.name = name;
        this.readings = readings;
        this.make = make;
    }

    static Shape at(int a, int b, int c) {
        return new Shape("(" + a + ", " + b + ", " + c + ")",
                (p, q, r) -> p == a && q == b && r == c, (x, z) -> point(x, z, a, b, c));
    }

    ClockZones put(ClockZones x, int z) {
        make.in(x, z);
        return x;
    }

    /** A new object for each time that it is asked for, with this shape and then the steps. */
    Supplier<ClockZones> then(int z, Consumer<ClockZones> steps) {
        return () -> {
            ClockZones x = put(new ClockZones(), z);
            steps.accept(x);
            return x;
        };
    }

    static int count(Readings readings) {
        int count = 0;
        for (int n = 0; n < 2197; n++) {
            count += readings.have(n / 169, n / 13 % 13, n % 13) ? 1 : 0;
        }
        return count;
    }

    static void point(ClockZones x, int z, int a, int b, int c) {
        x.set(z, 1, a);
        x.set(z, 2, b);
        x.set(z, 3, c);
    }

    private static void emptiedThenAll(ClockZones x, int z) {
        x.keep(z, 1, 0, -1);
        x.all(z);
    }

    private static void freed(ClockZones x, int z) {
        x.zero(z);
        x.free(z, 2);
        x.free(z, 1);
        x.free(z, 3);
    }

    private static void keptWhole(ClockZones x, int z) {
        x.keep(z, 1, 0, 12);
        x.keep(z, 2, 3, 12);
        x.keep(z, 0, 1, 0);
        x.pass(z);
        x.back(z);
    }

    private static void hullOfCorners(ClockZones x, int z) {
        int other = (z + 1) % 3;
        point(x, z, 12, 0, 0);
        point(x, other, 0, 12, 0);
        x.hull(z, other);
        point(x, other, 0, 0, 12);
        x.hull(z, other);
        x.all(other);
    }

    private static void keptRound(ClockZones x, int z) {
        x.keep(z, 1, 2, -1);
        x.keep(z, 2, 3, -1);
        x.keep(z, 3, 1, -1);
    }

    private static void keptUnderNumber(ClockZones x, int z) {
        x.set(z, 3, 12);
        x.keep(z, 3, 0, 11);
    }

    private static void metApart(ClockZones x, int z) {
        int other = (z + 2) % 3;
        x.zero(other);
        x.keep(z, 0, 2, -1);
        x.meet(z, other);
        x.all(other);
    }

    private static void copyOfEmpty(ClockZones x, int z) {
        int other = (z + 1) % 3;
        x.keep(other, 2, 0, -12);
        x.copy(z, other);
        x.all(other);
    }

    private static void hullOfNothing(ClockZones x, int z) {
        int other = (z + 2) % 3;
        x.keep(other, 3, 0, -1);
        x.keep(z, 1, 0, -1);
        x.hull(z, other);
        x.all(other);
    }

    private static void emptyThenChanged(ClockZones x, int z) {
        x.keep(z, 2, 0, -1);
        x.set(z, 2, 6);
        x.free(z, 1);
        x.follow(z, 3, 2);
        x.pass(z);
        x.back(z);
        x.keep(z, 2, 0, 12);
    }

    private static void keptAtZero(ClockZones x, int z) {
        x.keep(z, 1, 0, 0);
        x.keep(z, 2, 0, 0);
        x.keep(z, 3, 0, 0);
    }

    private static void keptAtTwelve(ClockZones x, int z) {
        x.keep(z, 0, 1, -12);
        x.keep(z, 0, 2, -12);
        x.keep(z, 0, 3, -12);
    }

    private static void passedToTheEnd(ClockZones x, int z) {
        diagonal(x, z);
        x.keep(z, 0, 2, -12);
    }

    private static void diagonal(ClockZones x, int z) {
        x.zero(z);
        x.pass(z);
    }

    private static void line(ClockZones x, int z) {
        point(x, z, 4, 7, 9);
        x.pass(z);
    }

    private static void strip(ClockZones x, int z) {
        x.keep(z, 1, 2, -2);
        x.keep(z, 3, 1, 5);
    }

    private static void box(ClockZones x, int z) {
        x.keep(z, 0, 1, -10);
        x.keep(z, 2, 0, 2);
        x.keep(z, 0, 3, -6);
        x.keep(z, 3, 0, 7);
    }
}
