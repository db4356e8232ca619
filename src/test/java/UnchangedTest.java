import java.util.ArrayList;
import java.util.List;

/**
 * "No question changes anything. A refused call changes nothing.": a test for each method, which
 * compares every reading of every zone before and after the call.
 */
public final class UnchangedTest {
    /** Sets up the three zones of a new object. */
    private interface Layout {
        ClockZones made();
    }

    public static void main(String[] args) {
        for (int m = 0; m < Methods.NAMES.length; m++) {
            int method = m;
            Check.test("a refused call of " + Methods.NAMES[m] + " changes nothing",
                    () -> unchanged(method, refusedCalls(method)));
        }
        for (int m = Methods.FIRST_QUESTION; m < Methods.NAMES.length; m++) {
            int method = m;
            Check.test("the question " + Methods.NAMES[m] + " changes nothing",
                    () -> unchanged(method, goodCalls(method)));
        }
        Check.end();
    }

    private static ClockZones threeShapes() {
        ClockZones x = new ClockZones();
        Shape.LINE.put(x, 0);
        Shape.DIAGONAL.put(x, 1);
        Shape.BOX.put(x, 2);
        return x;
    }

    private static ClockZones fullEmptyLast() {
        ClockZones x = new ClockZones();
        Shape.EMPTY[0].put(x, 1);
        Shape.LAST[0].put(x, 2);
        return x;
    }

    private static ClockZones lineFullEmpty() {
        ClockZones x = new ClockZones();
        Shape.LINE.put(x, 0);
        Shape.EMPTY[0].put(x, 2);
        return x;
    }

    private static void unchanged(int m, List<int[]> calls) {
        List<Layout> layouts = List.of(UnchangedTest::threeShapes, UnchangedTest::fullEmptyLast,
                UnchangedTest::lineFullEmpty);
        for (Layout layout : layouts) {
            List<List<Integer>> before = Check.state(layout.made());
            for (int[] p : calls) {
                ClockZones x = layout.made();
                Methods.answer(x, m, p);
                Check.same("what is left by " + Methods.told(m, p), Check.state(x), before);
            }
        }
    }

    private static List<int[]> goodCalls(int m) {
        List<int[]> calls = Methods.callsWith(m, 0, Methods.good('z'));
        calls.removeIf(p -> Methods.dueRefusal(m, p) != 0);
        return calls;
    }

    private static List<int[]> refusedCalls(int m) {
        List<int[]> calls = new ArrayList<>();
        for (int k = 0; k < Methods.arguments(m); k++) {
            char kind = Methods.kind(m, k);
            calls.addAll(Methods.callsWith(m, k, Methods.justTooSmall(kind),
                    Methods.justTooLarge(kind), Integer.MIN_VALUE, Integer.MAX_VALUE));
        }
        calls.removeIf(p -> Methods.dueRefusal(m, p) == 0);
        return calls;
    }
}
