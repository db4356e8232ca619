import java.util.ArrayList;
import java.util.Arrays;
import java.util.List;

/**
 * The public face as data: the name of each method, what each of its arguments is, and which
 * answer refuses an argument. Kinds: z a zone, s a side of a pair, k a clock, b the bound of a
 * difference, n a number of a clock, a any int.
 */
final class Methods {
    static final String[] NAMES = {"all", "zero", "keep", "pass", "back", "set", "free", "follow",
        "meet", "hull", "copy", "empty", "widest", "has", "size", "next", "within", "touch"};
    static final String[] KINDS = {"z", "z", "zssb", "z", "z", "zkn", "zk", "zkk",
        "zz", "zz", "zz", "z", "zss", "zaaa", "z", "za", "zz", "zz"};
    static final int FIRST_QUESTION = 11;

    /** Outside for every kind, and good again for a program that looks at some of the bits only. */
    static final int[] FAR = {-1000, 1000, 128, 255, 256, 257, 258, -254, -255, -256, 65536, 65537,
        -65535, 1 << 30, (1 << 30) + 1, -(1 << 30), Integer.MIN_VALUE, Integer.MIN_VALUE + 1,
        Integer.MIN_VALUE + 2, Integer.MAX_VALUE, Integer.MAX_VALUE - 1};

    private Methods() {
    }

    static int named(String name) {
        return Arrays.asList(NAMES).indexOf(name);
    }

    static int arguments(int m) {
        return KINDS[m].length();
    }

    static char kind(int m, int argument) {
        return KINDS[m].charAt(argument);
    }

    static boolean hasPair(int m) {
        return KINDS[m].contains("ss");
    }

    static int[] good(char kind) {
        switch (kind) {
            case 'z': return new int[] {0, 1, 2};
            case 's': return new int[] {0, 1, 2, 3};
            case 'k': return new int[] {1, 2, 3};
            case 'b': return new int[] {-12, -1, 0, 12};
            case 'n': return new int[] {0, 1, 11, 12};
            default: return new int[] {0, -1, 13, Integer.MIN_VALUE, Integer.MAX_VALUE};
        }
    }

    static int justTooSmall(char kind) {
        return kind == 'k' ? 0 : kind == 'b' ? -13 : -1;
    }

    static int justTooLarge(char kind) {
        return kind == 'z' ? 3 : kind == 'b' || kind == 'n' ? 13 : 4;
    }

    static boolean isGood(char kind, int value) {
        return kind == 'a' || value > justTooSmall(kind) && value < justTooLarge(kind);
    }

    /** The answer to a call in which an argument of this kind is the first wrong thing. */
    static int refusal(int m, char kind) {
        int test = kind == 'z' ? 1 : kind == 's' || kind == 'k' ? 2 : 3;
        return NAMES[m].equals("widest") ? -100 * test : -test;
    }

    /** The refusal that is due when the tests are made in the order named, or 0 for a good call. */
    static int dueRefusal(int m, int[] p) {
        for (int k = 0; k < arguments(m); k++) {
            boolean secondSide = hasPair(m) && k == 2;
            if (!isGood(kind(m, k), p[k]) || secondSide && p[1] == p[2]) {
                return refusal(m, kind(m, k));
            }
        }
        return 0;
    }

    /** All calls with one of the values at each argument. */
    static List<int[]> calls(int[]... values) {
        List<int[]> calls = new ArrayList<>();
        calls.add(new int[values.length]);
        for (int k = 0; k < values.length; k++) {
            List<int[]> longer = new ArrayList<>();
            for (int[] call : calls) {
                for (int value : values[k]) {
                    int[] p = call.clone();
                    p[k] = value;
                    longer.add(p);
                }
            }
            calls = longer;
        }
        return calls;
    }

    /** All calls with one of the values at the argument k, and good values at each other one. */
    static List<int[]> callsWith(int m, int k, int... values) {
        int[][] choice = new int[arguments(m)][];
        for (int other = 0; other < choice.length; other++) {
            choice[other] = other == k ? values : good(kind(m, other));
        }
        return calls(choice);
    }

    static int answer(ClockZones x, int m, int... p) {
        switch (m) {
            case 0: return x.all(p[0]);
            case 1: return x.zero(p[0]);
            case 2: return x.keep(p[0], p[1], p[2], p[3]);
            case 3: return x.pass(p[0]);
            case 4: return x.back(p[0]);
            case 5: return x.set(p[0], p[1], p[2]);
            case 6: return x.free(p[0], p[1]);
            case 7: return x.follow(p[0], p[1], p[2]);
            case 8: return x.meet(p[0], p[1]);
            case 9: return x.hull(p[0], p[1]);
            case 10: return x.copy(p[0], p[1]);
            case 11: return x.empty(p[0]);
            case 12: return x.widest(p[0], p[1], p[2]);
            case 13: return x.has(p[0], p[1], p[2], p[3]);
            case 14: return x.size(p[0]);
            case 15: return x.next(p[0], p[1]);
            case 16: return x.within(p[0], p[1]);
            default: return x.touch(p[0], p[1]);
        }
    }

    static String told(int m, int... p) {
        String list = Arrays.toString(Arrays.copyOf(p, arguments(m)));
        return NAMES[m] + "(" + list.substring(1, list.length() - 1) + ")";
    }
}
