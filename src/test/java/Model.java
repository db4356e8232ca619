import java.util.TreeSet;

/**
 * The document told over again, slowly and word for word, on sets of readings: each change makes
 * its new set out of the old one's readings, where ClockZones works in place.
 */
final class Model {
    private final TreeSet<Integer>[] zones;

    @SuppressWarnings({"unchecked", "rawtypes"})
    Model() {
        zones = new TreeSet[] {everything(), everything(), everything()};
    }

    private static TreeSet<Integer> everything() {
        TreeSet<Integer> s = new TreeSet<>();
        for (int a = 0; a <= 12; a++) {
            for (int b = 0; b <= 12; b++) {
                for (int c = 0; c <= 12; c++) {
                    s.add(169 * a + 13 * b + c);
                }
            }
        }
        return s;
    }

    /** The numbers of clocks 0 .. 3. */
    static int[] clocks(int n) {
        return new int[] {0, n / 169, n % 169 / 13, n % 13};
    }

    private static boolean isReading(int[] r) {
        for (int k = 1; k <= 3; k++) {
            if (r[k] < 0 || r[k] > 12) {
                return false;
            }
        }
        return true;
    }

    private static int number(int[] r) {
        return 169 * r[1] + 13 * r[2] + r[3];
    }

    private static boolean holds(int n, int i, int j, int c) {
        int[] r = clocks(n);
        return r[i] - r[j] <= c;
    }

    private static boolean zone(int z) {
        return 0 <= z && z <= 2;
    }

    private static boolean clock(int k) {
        return 1 <= k && k <= 3;
    }

    private static boolean pair(int i, int j) {
        return (i == 0 || clock(i)) && (j == 0 || clock(j)) && i != j;
    }

    private static TreeSet<Integer> later(TreeSet<Integer> s, int direction) {
        TreeSet<Integer> t = new TreeSet<>();
        for (int n : s) {
            for (int d = 0; d <= 12; d++) {
                int[] r = clocks(n);
                for (int k = 1; k <= 3; k++) {
                    r[k] += direction * d;
                }
                if (isReading(r)) {
                    t.add(number(r));
                }
            }
        }
        return t;
    }

    private static TreeSet<Integer> withClock(TreeSet<Integer> s, int clock, int low, int high) {
        TreeSet<Integer> t = new TreeSet<>();
        for (int n : s) {
            for (int v = low; v <= high; v++) {
                int[] r = clocks(n);
                r[clock] = v;
                t.add(number(r));
            }
        }
        return t;
    }

    private static TreeSet<Integer> followed(TreeSet<Integer> s, int i, int j) {
        TreeSet<Integer> t = new TreeSet<>();
        for (int n : s) {
            int[] r = clocks(n);
            r[i] = r[j];
            t.add(number(r));
        }
        return t;
    }

    private static TreeSet<Integer> hullOf(TreeSet<Integer> s) {
        if (s.isEmpty()) {
            return new TreeSet<>();
        }
        TreeSet<Integer> t = everything();
        for (int i = 0; i <= 3; i++) {
            for (int j = 0; j <= 3; j++) {
                for (int c = -12; c <= 12 && i != j; c++) {
                    int left = i;
                    int right = j;
                    int most = c;
                    if (s.stream().allMatch(n -> holds(n, left, right, most))) {
                        t.removeIf(n -> !holds(n, left, right, most));
                    }
                }
            }
        }
        return t;
    }

    private int become(int z, TreeSet<Integer> s) {
        zones[z] = s;
        return s.isEmpty() ? 0 : 1;
    }

    /** What the document asks for the call of the method m of Methods.NAMES. */
    int call(int m, int[] p) {
        boolean twoZones = m >= 8 && m <= 10 || m >= 16;
        if (!zone(p[0]) || twoZones && !zone(p[1])) {
            return m == 12 ? -100 : -1;
        }
        return m <= 10 ? change(m, p) : ask(m, p);
    }

    private int change(int m, int[] p) {
        TreeSet<Integer> s = zones[p[0]];
        switch (m) {
            case 0:
                zones[p[0]] = everything();
                return 0;
            case 1:
                zones[p[0]] = new TreeSet<>(java.util.List.of(0));
                return 0;
            case 2:
                if (!pair(p[1], p[2])) {
                    return -2;
                }
                if (p[3] < -12 || p[3] > 12) {
                    return -3;
                }
                TreeSet<Integer> kept = new TreeSet<>(s);
                kept.removeIf(n -> !holds(n, p[1], p[2], p[3]));
                return become(p[0], kept);
            case 3:
                return become(p[0], later(s, 1));
            case 4:
                return become(p[0], later(s, -1));
            case 5:
                if (!clock(p[1])) {
                    return -2;
                }
                return p[2] < 0 || p[2] > 12 ? -3 : become(p[0], withClock(s, p[1], p[2], p[2]));
            case 6:
                return !clock(p[1]) ? -2 : become(p[0], withClock(s, p[1], 0, 12));
            case 7:
                return !clock(p[1]) || !clock(p[2]) ? -2 : become(p[0], followed(s, p[1], p[2]));
            default:
                return join(m, p[0], p[1]);
        }
    }

    private int join(int m, int y, int z) {
        TreeSet<Integer> s = new TreeSet<>(zones[y]);
        if (m == 8) {
            s.retainAll(zones[z]);
            return become(y, s);
        }
        if (m == 9) {
            s.addAll(zones[z]);
            return become(y, hullOf(s));
        }
        zones[y] = new TreeSet<>(zones[z]);
        return 0;
    }

    private int ask(int m, int[] p) {
        TreeSet<Integer> s = zones[p[0]];
        switch (m) {
            case 11:
                return s.isEmpty() ? 1 : 0;
            case 12:
                if (!pair(p[1], p[2])) {
                    return -200;
                }
                return s.stream().map(Model::clocks)
                        .mapToInt(k -> k[p[1]] - k[p[2]]).max().orElse(-300);
            case 13:
                int[] r = {0, p[1], p[2], p[3]};
                return isReading(r) && s.contains(number(r)) ? 1 : 0;
            case 14:
                return s.size();
            case 15:
                Integer n = s.higher(p[1]);
                return n == null ? -2 : n;
            case 16:
                return zones[p[1]].containsAll(s) ? 1 : 0;
            default:
                return s.stream().anyMatch(zones[p[1]]::contains) ? 1 : 0;
        }
    }
}
