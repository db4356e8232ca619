import java.util.ArrayList;
import java.util.List;

/**
 * "An object is used for at most 512 calls after it has been made": the 512th call still answers
 * as it should, whatever calls came before, and two objects know nothing of each other.
 */
public final class LifeTest {
    private static final int LIFE = 512;
    // Calls that leave every zone of a new object as it is, one for each method where there is one.
    private static final int[][] IDLE = {{0, 1}, {2, 0, 1, 0, 12}, {3, 2}, {4, 1}, {6, 0, 3},
        {7, 1, 2, 2}, {8, 0, 1}, {9, 2, 0}, {10, 1, 2}, {11, 0}, {12, 1, 3, 2}, {13, 2, 5, 5, 5},
        {14, 0}, {15, 1, 700}, {16, 2, 0}, {17, 0, 1}};
    private static final int[][] REFUSED = {{0, 3}, {1, -1}, {2, 0, 1, 1, 0}, {3, 3}, {4, -1},
        {5, 0, 1, 13}, {6, 0, 0}, {7, 0, 1, 4}, {8, 0, 3}, {9, -1, 0}, {10, 3, 3}, {11, 3},
        {12, 0, 4, 1}, {13, -1, 0, 0, 0}, {14, 3}, {15, 3, 0}, {16, 0, 3}, {17, -1, 2}};
    private static final int[][] LAST_CALLS = {{0, 0}, {1, 1}, {2, 2, 1, 2, -3}, {3, 0}, {4, 1},
        {5, 2, 3, 12}, {6, 0, 1}, {7, 1, 3, 1}, {8, 2, 0}, {9, 0, 1}, {10, 1, 2}, {11, 2},
        {12, 0, 2, 3}, {13, 1, 12, 0, 7}, {14, 2}, {15, 0, 2195}, {16, 1, 2}, {17, 2, 1}};

    public static void main(String[] args) {
        for (int[] idle : IDLE) {
            Check.test("511 calls of " + told(idle), () -> lastCalls(same(idle), List.of()));
        }
        for (int[] refused : REFUSED) {
            Check.test("511 refused calls of " + told(refused),
                    () -> lastCalls(same(refused), List.of()));
        }
        Check.test("511 calls of all and zero in turn", LifeTest::allAndZero);
        Check.test("511 calls of all methods in turn", () -> lastCalls(inTurn(), inTurn()));
        Check.test("two objects side by side", LifeTest::twoObjects);
        Check.end();
    }

    private static int method(int[] call) {
        return call[0];
    }

    private static int[] arguments(int[] call) {
        int[] p = new int[4];
        System.arraycopy(call, 1, p, 0, call.length - 1);
        return p;
    }

    private static String told(int[] call) {
        return Methods.told(method(call), arguments(call));
    }

    private static List<int[]> same(int[] call) {
        List<int[]> calls = new ArrayList<>();
        for (int n = 1; n < LIFE; n++) {
            calls.add(call);
        }
        return calls;
    }

    private static List<int[]> inTurn() {
        List<int[]> calls = new ArrayList<>();
        for (int n = 1; n < LIFE; n++) {
            calls.add(n % 7 == 0 ? REFUSED[n % REFUSED.length] : LAST_CALLS[n % LAST_CALLS.length]);
        }
        return calls;
    }

    /** Each method as the 512th call; the model is told only of calls that change a zone. */
    private static void lastCalls(List<int[]> calls, List<int[]> changes) {
        for (int[] last : LAST_CALLS) {
            ClockZones x = new ClockZones();
            for (int[] call : calls) {
                Methods.answer(x, method(call), arguments(call));
            }
            Model model = new Model();
            for (int[] call : changes) {
                model.call(method(call), arguments(call));
            }
            int got = Methods.answer(x, method(last), arguments(last));
            Check.due("the 512th, " + told(last), got, model.call(method(last), arguments(last)));
        }
    }

    private static void allAndZero() {
        ClockZones x = new ClockZones();
        for (int n = 1; n < LIFE; n++) {
            Check.due("call " + n, n % 2 == 0 ? x.all(1) : x.zero(1), 0);
        }
        Check.due("the 512th, size(1)", x.size(1), 1);
    }

    private static void twoObjects() {
        ClockZones x = new ClockZones();
        ClockZones y = new ClockZones();
        x.zero(0);
        y.keep(0, 1, 0, -1);
        Check.due("x", x.size(0), 1);
        Check.due("y", y.size(0), 0);
        x.hull(1, 0);
        y.hull(0, 0);
        Check.due("a hull in y", y.size(0), 0);
        Check.due("a hull in x", x.size(1), 2197);
        Check.due("a third", new ClockZones().size(0), 2197);
    }
}
