import java.util.ArrayList;
import java.util.Arrays;
import java.util.List;

/** Long runs of made-up calls, the same ones every time, whose answers the model gives too. */
public final class ModelTest {
    private static final int RUNS = 120;
    private static final int LIFE = 512;
    private static final int[] ODD = {-100, -13, -1, 3, 4, 13, 100,
        Integer.MIN_VALUE, Integer.MAX_VALUE};

    private static long seed = 20261115L;

    public static void main(String[] args) {
        for (int run = 0; run < RUNS; run++) {
            wholeLife(run);
        }
        for (int run = 0; run < RUNS; run++) {
            everyReading(run);
        }
        Check.end();
    }

    private static int pick(int bound) {
        seed = seed * 6364136223846793005L + 1442695040888963407L;
        return (int) ((seed >>> 33) % bound);
    }

    /** Mostly good arguments, as refused calls lead nowhere. */
    private static int[] arguments(int m) {
        int[] p = new int[4];
        p[0] = pick(3);
        switch (Model.NAMES[m]) {
            case "keep":
            case "widest":
                p[1] = pick(4);
                p[2] = (p[1] + 1 + pick(3)) % 4;
                p[3] = p[2] == 0 ? 2 + pick(11) : pick(19) - 6;
                break;
            case "set":
            case "free":
            case "follow":
                p[1] = 1 + pick(3);
                p[2] = m == 5 ? pick(13) : 1 + pick(3);
                break;
            case "has":
                p[1] = pick(13);
                p[2] = pick(13);
                p[3] = pick(13);
                break;
            case "next":
                p[1] = pick(2200) - 2;
                break;
            default:
                p[1] = pick(3);
        }
        if (pick(25) == 0) {
            p[pick(4)] = ODD[pick(ODD.length)];
        }
        return p;
    }

    private static int method() {
        // The first two, all and zero, wipe out what a run has built up.
        int m = pick(Model.NAMES.length);
        return m < 2 && pick(4) != 0 ? 2 : m;
    }

    private static int answer(ClockZones x, int m, int[] p) {
        switch (m) {
            case 0: return x.all(p[0]);
            case 1: return x.zero(p[0]);
            case 2: return x.keep(p[0], p[1], p[2], p[3]);
            case 3: return x.pass(p[0]);
            case 4: return x.back(p[0]);
            case 5: return x.set(p[0], p[1], p[2]);
            case 6: return x.free(p[0], p[1]);
            case 7: return x.follow(p[0], p[1], p[2]);
            case 8: return x.meet(p[0], p[1]);
            case 9: return x.hull(p[0], p[1]);
            case 10: return x.copy(p[0], p[1]);
            case 11: return x.empty(p[0]);
            case 12: return x.widest(p[0], p[1], p[2]);
            case 13: return x.has(p[0], p[1], p[2], p[3]);
            case 14: return x.size(p[0]);
            case 15: return x.next(p[0], p[1]);
            case 16: return x.within(p[0], p[1]);
            default: return x.touch(p[0], p[1]);
        }
    }

    private static String told(int run, int m, int[] p) {
        String list = Arrays.toString(Arrays.copyOf(p, Model.COUNTS[m]));
        return "run " + run + ": " + Model.NAMES[m] + list;
    }

    private static void wholeLife(int run) {
        ClockZones x = new ClockZones();
        Model model = new Model();
        for (int call = 0; call < LIFE; call++) {
            int m = method();
            int[] p = arguments(m);
            Check.due(told(run, m, p), answer(x, m, p), model.call(m, p));
            // An empty zone stays empty under most calls: filling it keeps the run telling.
            if (model.call(11, p) == 1 && pick(3) == 0) {
                int[] again = {p[0], (p[0] + 1) % 3, 0, 0};
                int fill = pick(2) * 10;
                call++;
                if (call < LIFE) {
                    Check.due(told(run, fill, again), answer(x, fill, again), model.call(fill, again));
                }
            }
        }
    }

    /** Asks for each reading of each zone; the calls are made anew so that none is past the 512th. */
    private static void everyReading(int run) {
        List<int[]> calls = new ArrayList<>();
        for (int k = 0; k < 12; k++) {
            int m = method() % 11;
            int[] p = arguments(m);
            calls.add(new int[] {m, p[0], p[1], p[2], p[3]});
        }
        Model model = new Model();
        for (int[] c : calls) {
            model.call(c[0], new int[] {c[1], c[2], c[3], c[4]});
        }
        ClockZones x = null;
        for (int k = 0; k < 3 * 2197; k++) {
            if (k % 500 == 0) {
                x = replay(calls);
            }
            int[] r = Model.clocks(k % 2197);
            int[] p = {k / 2197, r[1], r[2], r[3]};
            Check.due(told(run, 13, p), answer(x, 13, p), model.call(13, p));
        }
    }

    private static ClockZones replay(List<int[]> calls) {
        ClockZones x = new ClockZones();
        for (int[] c : calls) {
            answer(x, c[0], new int[] {c[1], c[2], c[3], c[4]});
        }
        return x;
    }
}
