import java.util.ArrayList;
import java.util.List;

/** What the tests share: counting wrong answers, and the things that a zone can be asked. */
final class Check {
    static final int[] NOT_ZONES = {-1, 3, 4, Integer.MIN_VALUE, Integer.MAX_VALUE};
    static final int[] NOT_CLOCKS = {0, -1, 4, Integer.MIN_VALUE, Integer.MAX_VALUE};
    static final int[] NOT_SIDES = {-1, 4, 5, Integer.MIN_VALUE, Integer.MAX_VALUE};
    static final int[] NOT_NUMBERS = {-1, 13, 25, Integer.MIN_VALUE, Integer.MAX_VALUE};
    static final int[] NOT_BOUNDS = {-13, 13, 25, Integer.MIN_VALUE, Integer.MAX_VALUE};

    private static int wrong = 0;
    private static int asked = 0;

    private Check() {
    }

    static void due(String what, long got, long want) {
        asked++;
        if (got != want) {
            wrong++;
            System.out.println(what + " answered " + got + ", due is " + want);
        }
    }

    static void same(String what, Object got, Object want) {
        asked++;
        if (!got.equals(want)) {
            wrong++;
            System.out.println(what + " is " + got + ", due is " + want);
        }
    }

    /** Zones are closed under the hull, so size and the widest differences tell one from another. */
    static List<Integer> state(ClockZones x) {
        List<Integer> answers = new ArrayList<>();
        for (int z = 0; z < 3; z++) {
            answers.add(x.size(z));
            for (int i = 0; i <= 3; i++) {
                for (int j = 0; j <= 3; j++) {
                    if (i != j) {
                        answers.add(x.widest(z, i, j));
                    }
                }
            }
        }
        return answers;
    }

    /** The zone's readings as numbers, in order; only for zones small enough for 512 calls. */
    static List<Integer> readings(ClockZones x, int z) {
        List<Integer> numbers = new ArrayList<>();
        int n = x.next(z, -1);
        while (n >= 0 && numbers.size() < 300) {
            numbers.add(n);
            n = x.next(z, n);
        }
        return numbers;
    }

    static int number(int a, int b, int c) {
        return 169 * a + 13 * b + c;
    }

    static void end() {
        System.out.println(asked + " answers looked at, " + wrong + " wrong");
        if (wrong != 0 || asked == 0) {
            System.exit(1);
        }
    }
}
