import java.util.ArrayList;
import java.util.List;

/** Long runs of made-up calls, the same ones every time, whose answers the model gives too. */
public final class ModelTest {
    private static final int RUNS = 120;
    private static final int LIFE = 512;
    private static final int[] ODD = {-100, -13, -1, 3, 4, 13, 100,
        Integer.MIN_VALUE, Integer.MAX_VALUE};

    private static long seed = 20261115L;

    public static void main(String[] args) {
        for (int run = 0; run < RUNS; run++) {
            wholeLife(run);
        }
        for (int run = 0; run < RUNS; run++) {
            everyReading(run);
        }
        Check.end();
    }

    private static int pick(int bound) {
        seed = seed * 6364136223846793005L + 1442695040888963407L;
        return (int) ((seed >>> 33) % bound);
    }

    /** Mostly good arguments, as refused calls lead nowhere. */
    private static int[] arguments(int m) {
        int[] p = new int[4];
        p[0] = pick(3);
        switch (Methods.NAMES[m]) {
            case "keep":
            case "widest":
                p[1] = pick(4);
                p[2] = (p[1] + 1 + pick(3)) % 4;
                p[3] = p[2] == 0 ? 2 + pick(11) : pick(19) - 6;
                break;
            case "set":
            case "free":
            case "follow":
                p[1] = 1 + pick(3);
                p[2] = m == 5 ? pick(13) : 1 + pick(3);
                break;
            case "has":
                p[1] = pick(13);
                p[2] = pick(13);
                p[3] = pick(13);
                break;
            case "next":
                p[1] = pick(2200) - 2;
                break;
            default:
                p[1] = pick(3);
        }
        if (pick(25) == 0) {
            p[pick(4)] = ODD[pick(ODD.length)];
        }
        return p;
    }

    private static int method() {
        // The first two, all and zero, wipe out what a run has built up.
        int m = pick(Methods.NAMES.length);
        return m < 2 && pick(4) != 0 ? 2 : m;
    }

    private static String told(int run, int m, int[] p) {
        return "run " + run + ": " + Methods.told(m, p);
    }

    private static void wholeLife(int run) {
        ClockZones x = new ClockZones();
        Model model = new Model();
        for (int call = 0; call < LIFE; call++) {
            int m = method();
            int[] p = arguments(m);
            Check.due(told(run, m, p), Methods.answer(x, m, p), model.call(m, p));
            // An empty zone stays empty under most calls: filling it keeps the run telling.
            if (model.call(11, p) == 1 && pick(3) == 0) {
                int[] again = {p[0], (p[0] + 1) % 3, 0, 0};
                int fill = pick(2) * 10;
                call++;
                if (call < LIFE) {
                    int got = Methods.answer(x, fill, again);
                    Check.due(told(run, fill, again), got, model.call(fill, again));
                }
            }
        }
    }

    /** Asks for each reading; the calls are made anew so that none is past the 512th. */
    private static void everyReading(int run) {
        List<int[]> calls = new ArrayList<>();
        for (int k = 0; k < 12; k++) {
            int m = method() % 11;
            int[] p = arguments(m);
            calls.add(new int[] {m, p[0], p[1], p[2], p[3]});
        }
        Model model = new Model();
        for (int[] c : calls) {
            model.call(c[0], new int[] {c[1], c[2], c[3], c[4]});
        }
        ClockZones x = null;
        for (int k = 0; k < 3 * 2197; k++) {
            if (k % 500 == 0) {
                x = replay(calls);
            }
            int[] r = Model.clocks(k % 2197);
            int[] p = {k / 2197, r[1], r[2], r[3]};
            Check.due(told(run, 13, p), Methods.answer(x, 13, p), model.call(13, p));
        }
    }

    private static ClockZones replay(List<int[]> calls) {
        ClockZones x = new ClockZones();
        for (int[] c : calls) {
            Methods.answer(x, c[0], new int[] {c[1], c[2], c[3], c[4]});
        }
        return x;
    }
}
