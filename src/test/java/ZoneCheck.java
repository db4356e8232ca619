import java.util.function.Consumer;
import java.util.function.Supplier;

/** What the tests of one kind of zone share: each way of making it, and what a step leaves. */
final class ZoneCheck {
    interface ZoneTest {
        void in(Shape shape, int z, String what);
    }

    interface Step {
        int on(ClockZones x);
    }

    static final int[][] PAIRS = {{0, 1}, {0, 2}, {0, 3}, {1, 0}, {1, 2}, {1, 3},
        {2, 0}, {2, 1}, {2, 3}, {3, 0}, {3, 1}, {3, 2}};

    private ZoneCheck() {
    }

    /** A test of its own, with each of the shapes in each of the zones. */
    static void test(String name, Shape[] shapes, ZoneTest test) {
        Check.test(name, () -> each(name, shapes, test));
    }

    private static void each(String name, Shape[] shapes, ZoneTest test) {
        for (Shape shape : shapes) {
            for (int z = 0; z < 3; z++) {
                test.in(shape, z, name + " in zone " + z + ", " + shape.name);
            }
        }
    }

    /** Looks at the answer of the step once; then makes objects on which it has been done. */
    static Supplier<ClockZones> due(Shape s, int z, String what, int want, Step step) {
        Check.due(what, step.on(s.put(new ClockZones(), z)), want);
        return s.then(z, step::on);
    }

    /** A step on the shape in zone z and a strip in the other zone, and what it leaves in each. */
    static void withStrip(Shape s, int z, int other, String what, int want, Step step,
            Shape.Readings left, Shape.Readings leftInOther) {
        Consumer<ClockZones> strip = x -> Shape.STRIP.put(x, other);
        Check.due(what, step.on(s.then(z, strip).get()), want);
        Supplier<ClockZones> made = s.then(z, strip.andThen(step::on));
        Check.zone(what, made, z, left);
        Check.zone(what + ", the other", made, other, leftInOther);
    }

    /** The zone after a step, and that the other two still have all readings. */
    static void left(String what, Supplier<ClockZones> made, int z, Shape.Readings want) {
        Check.zone(what, made, z, want);
        Check.due(what + ", the next zone", made.get().size((z + 1) % 3), 2197);
        Check.due(what + ", the one after", made.get().size((z + 2) % 3), 2197);
    }

    static void stepLeaves(Shape s, int z, String what, int want, Shape.Readings left, Step step) {
        left(what, due(s, z, what, want, step), z, left);
    }

    private static int clock(int k, int a, int b, int c) {
        return k == 0 ? 0 : k == 1 ? a : k == 2 ? b : c;
    }

    /** The readings for which the difference (i, j, c) holds. */
    static Shape.Readings atMost(int i, int j, int most) {
        return (a, b, c) -> clock(i, a, b, c) - clock(j, a, b, c) <= most;
    }

    /** The readings in which clock i less clock j is just so much. */
    static Shape.Readings just(int i, int j, int number) {
        return (a, b, c) -> clock(i, a, b, c) - clock(j, a, b, c) == number;
    }
}
