import java.util.ArrayList;
import java.util.List;

/**
 * The same zone given twice, for each method that takes two, and "(Nothing changes if they are the
 * same.)" of follow: with the empty zone, the full one, and zones of several shapes.
 */
public final class SameTwiceTest {
    private static final Shape[] SHAPES = shapes();

    public static void main(String[] args) {
        twice("10: meet", (s, z, what) -> unchanged(s, z, what, someIn(s), x -> x.meet(z, z)));
        twice("11: hull", (s, z, what) -> unchanged(s, z, what, someIn(s), x -> x.hull(z, z)));
        twice("12: copy", (s, z, what) -> unchanged(s, z, what, 0, x -> x.copy(z, z)));
        twice("18: within", (s, z, what) -> unchanged(s, z, what, 1, x -> x.within(z, z)));
        twice("19: touch", (s, z, what) -> unchanged(s, z, what, someIn(s), x -> x.touch(z, z)));
        for (int k = 1; k <= 3; k++) {
            int clock = k;
            ZoneCheck.test("9: clock " + k + " follows itself", SHAPES, (s, z, what) ->
                    unchanged(s, z, what, someIn(s), x -> x.follow(z, clock, clock)));
        }
        Check.end();
    }

    private static Shape[] shapes() {
        List<Shape> shapes = new ArrayList<>(List.of(Shape.EMPTY));
        shapes.addAll(List.of(Shape.FULL));
        shapes.addAll(List.of(Shape.FIRST));
        shapes.addAll(List.of(Shape.LAST));
        shapes.addAll(List.of(Shape.DIAGONAL, Shape.LINE, Shape.STRIP, Shape.BOX));
        return shapes.toArray(new Shape[0]);
    }

    private static void twice(String name, ZoneCheck.ZoneTest test) {
        ZoneCheck.test(name + ", the same zone twice", SHAPES, test);
    }

    private static int someIn(Shape s) {
        return Shape.count(s.readings) == 0 ? 0 : 1;
    }

    private static void unchanged(Shape s, int z, String what, int want, ZoneCheck.Step step) {
        ZoneCheck.stepLeaves(s, z, what, want, s.readings, step);
    }
}
