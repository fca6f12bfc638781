import java.util.ArrayList;
import java.util.Collections;
import java.util.HashSet;
import java.util.List;
import java.util.Set;
import java.util.TreeMap;

/**
 * The document's words written down as plainly as they go, without a thought for time or room: what
 * CubeSnakes is compared with. Nothing here is shared with the class.
 */
final class PlainSnakes {
    static final int BAD = -1, FULL = -2, FINDING = -3, STATE = -4, SPENT = -6, NONE = -9;

    private int d = 3;
    private int k = 2;
    private Set<Integer> barred = new HashSet<>();
    private final List<List<Integer>> ropes = new ArrayList<>();
    private int tries = 0;
    private long asked = 0;
    private List<List<Integer>> known = new ArrayList<>();
    private int finding = 0;
    private final int[] findings = new int[5];

    PlainSnakes() {
        for (int p = 0; p < 12; p++) {
            ropes.add(null);
        }
    }

    // ---- the terms

    private static int unlike(int a, int b) {
        int bits = 0;
        for (int w = 0; w < 6; w++) {
            if ((a >> w) % 2 != (b >> w) % 2) {
                bits++;
            }
        }
        return bits;
    }

    private static int ones(int a) {
        return unlike(a, 0);
    }

    private boolean hasOnlyWaysOfTheCube(List<Integer> row) {
        return row.stream().allMatch(w -> w < d);
    }

    private static List<Integer> corners(List<Integer> row) {
        List<Integer> c = new ArrayList<>();
        c.add(0);
        for (int w : row) {
            c.add(c.get(c.size() - 1) ^ (1 << w));
        }
        return c;
    }

    boolean isSnake(List<Integer> row) {
        if (!hasOnlyWaysOfTheCube(row)) {
            return false;
        }
        List<Integer> c = corners(row);
        for (int j = 0; j < c.size(); j++) {
            if (barred.contains(c.get(j))) {
                return false;
            }
            for (int i = 0; i < j; i++) {
                if (unlike(c.get(i), c.get(j)) < Math.min(j - i, k)) {
                    return false;
                }
            }
        }
        return true;
    }

    boolean isRing(List<Integer> row) {
        int n = row.size();
        if (!hasOnlyWaysOfTheCube(row) || n < (k == 1 ? 4 : 2 * k)) {
            return false;
        }
        List<Integer> c = corners(row);
        if (c.get(n) != 0) {
            return false;
        }
        for (int j = 0; j < n; j++) {
            if (barred.contains(c.get(j))) {
                return false;
            }
            for (int i = 0; i < j; i++) {
                int e = Math.min(j - i, n - (j - i));
                if (unlike(c.get(i), c.get(j)) < Math.min(e, k)) {
                    return false;
                }
            }
        }
        return true;
    }

    boolean isOpen(List<Integer> row) {
        List<Integer> c = corners(row);
        for (int j = 0; j < c.size(); j++) {
            if (barred.contains(c.get(j))) {
                return false;
            }
            for (int i = 0; i < j; i++) {
                if (c.get(i).equals(c.get(j))) {
                    return false;
                }
                boolean far = unlike(c.get(i), c.get(j)) >= Math.min(j - i, k);
                if (!far && !(i + ones(c.get(j)) < k)) {
                    return false;
                }
            }
        }
        return true;
    }

    private static List<Integer> with(List<Integer> row, int way) {
        List<Integer> longer = new ArrayList<>(row);
        longer.add(way);
        return longer;
    }

    private int openWays(List<Integer> row) {
        int open = 0;
        for (int w = 0; w < d; w++) {
            if (isSnake(with(row, w))) {
                open++;
            }
        }
        return open;
    }

    private static List<Integer> named(List<Integer> row) {
        List<Integer> order = new ArrayList<>();
        List<Integer> names = new ArrayList<>();
        for (int w : row) {
            if (!order.contains(w)) {
                order.add(w);
            }
            names.add(order.indexOf(w));
        }
        return names;
    }

    private static List<List<Integer>> readings(List<Integer> row, boolean ring) {
        List<List<Integer>> all = new ArrayList<>();
        for (int b = 0; b < (ring ? row.size() : 1); b++) {
            List<Integer> forward = new ArrayList<>(row.subList(b, row.size()));
            forward.addAll(row.subList(0, b));
            List<Integer> backward = new ArrayList<>(forward);
            Collections.reverse(backward);
            all.add(forward);
            all.add(backward);
        }
        return all;
    }

    private static int compare(List<Integer> a, List<Integer> b) {
        for (int i = 0; i < a.size(); i++) {
            if (!a.get(i).equals(b.get(i))) {
                return a.get(i) - b.get(i);
            }
        }
        return 0;
    }

    static List<Integer> leastForm(List<Integer> row, boolean ring) {
        List<Integer> best = null;
        for (List<Integer> reading : readings(row, ring)) {
            List<Integer> names = named(reading);
            if (best == null || compare(names, best) < 0) {
                best = names;
            }
        }
        return best;
    }

    private static void orders(int n, List<Integer> begun, List<List<Integer>> all) {
        if (begun.size() == n) {
            all.add(begun);
            return;
        }
        for (int w = 0; w < n; w++) {
            if (!begun.contains(w)) {
                orders(n, with(begun, w), all);
            }
        }
    }

    private List<List<Integer>> turnsOfWays() {
        List<List<Integer>> all = new ArrayList<>();
        orders(d, new ArrayList<>(), all);
        return all;
    }

    private static int turned(int corner, List<Integer> order, int bits) {
        int result = 0;
        for (int w = 0; w < order.size(); w++) {
            if ((corner >> w) % 2 == 1) {
                result += 1 << order.get(w);
            }
        }
        return result ^ bits;
    }

    /** By the words of ALIKE: a TURN of the ways that makes one of the other's readings of the one. */
    private boolean areAlike(List<Integer> a, List<Integer> b, boolean rings) {
        if (a.size() != b.size()) {
            return false;
        }
        for (List<Integer> order : turnsOfWays()) {
            List<Integer> moved = new ArrayList<>();
            for (int w : a) {
                moved.add(order.get(w));
            }
            if (readings(b, rings).contains(moved)) {
                return true;
            }
        }
        return false;
    }

    private int turnsOf(List<Integer> ring) {
        Set<Integer> set = new HashSet<>(corners(ring));
        int turns = 0;
        for (List<Integer> order : turnsOfWays()) {
            for (int bits = 0; bits < 1 << d; bits++) {
                boolean all = true;
                for (int c : set) {
                    if (!set.contains(turned(c, order, bits))) {
                        all = false;
                        break;
                    }
                }
                if (all) {
                    turns++;
                }
            }
        }
        return turns;
    }

    // ---- seeking

    private interface Meeting {
        /** What is done with a row that was met; false: it is enough. */
        boolean met(List<Integer> row);
    }

    private int allowed;
    private boolean spent;

    private void seek(boolean ring, int deepest, int mostTries, Meeting meeting) {
        tries = 0;
        allowed = mostTries;
        spent = false;
        goOn(new ArrayList<>(), ring, deepest, meeting);
    }

    private void goOn(List<Integer> row, boolean ring, int deepest, Meeting meeting) {
        boolean isRing = ring && isRing(row);
        if ((!ring || isRing) && !meeting.met(row)) {
            spent = true;
            return;
        }
        if (isRing || row.size() >= deepest) {
            return;
        }
        int most = d - 1;
        if (barred.isEmpty()) {
            int greatest = row.stream().mapToInt(w -> w).max().orElse(-1);
            most = Math.min(most, greatest + 1);
        }
        for (int w = 0; w <= most && !spent; w++) {
            List<Integer> longer = with(row, w);
            if (longer.size() > 64) {
                continue;
            }
            boolean isTry = ring ? isRing(longer) || isOpen(longer) : isSnake(longer);
            if (!isTry) {
                continue;
            }
            if (tries == allowed) {
                spent = true;
                return;
            }
            tries++;
            goOn(longer, ring, deepest, meeting);
        }
    }

    // ---- the calls

    private static boolean isPlace(int p) {
        return p >= 0 && p <= 11;
    }

    private int found(int which) {
        finding = which;
        findings[which]++;
        return FINDING;
    }

    int cube(int ways) {
        if (ways < 1 || ways > 6) {
            return BAD;
        }
        d = ways;
        barred = new HashSet<>();
        return ways;
    }

    int spread(int spread) {
        if (spread < 1 || spread > 3) {
            return BAD;
        }
        k = spread;
        return 1;
    }

    private boolean isCorner(int corner) {
        return corner >= 0 && corner <= (1 << d) - 1;
    }

    int bar(int corner, boolean is) {
        if (!isCorner(corner)) {
            return BAD;
        }
        boolean was = barred.contains(corner);
        if (is) {
            barred.add(corner);
        } else {
            barred.remove(corner);
        }
        return was ? 1 : 0;
    }

    long barred() {
        long bits = 0;
        for (int c : barred) {
            bits += 1L << c;
        }
        return bits;
    }

    int word(int p) {
        if (!isPlace(p)) {
            return BAD;
        }
        return ropes.set(p, new ArrayList<>()) == null ? 0 : 1;
    }

    int step(int p, int way) {
        if (!isPlace(p) || way < 0 || way > 5) {
            return BAD;
        }
        if (ropes.get(p) == null) {
            return found(1);
        }
        if (ropes.get(p).size() == 64) {
            return FULL;
        }
        ropes.get(p).add(way);
        return ropes.get(p).size();
    }

    int at(int p, int i) {
        if (!isPlace(p)) {
            return BAD;
        }
        List<Integer> rope = ropes.get(p);
        if (rope == null) {
            return found(1);
        }
        if (i == -1) {
            return rope.size();
        }
        return i < 0 || i >= rope.size() ? found(2) : rope.get(i);
    }

    int cut(int p, int n) {
        if (!isPlace(p)) {
            return BAD;
        }
        if (n < 0) {
            return found(4);
        }
        List<Integer> rope = ropes.get(p);
        if (rope == null) {
            return found(1);
        }
        if (rope.size() < n) {
            return found(2);
        }
        ropes.set(p, new ArrayList<>(rope.subList(0, n)));
        return n;
    }

    int tear(int p) {
        if (!isPlace(p)) {
            return BAD;
        }
        return ropes.set(p, null) == null ? found(1) : 1;
    }

    int join(int p, int i, int n, int to) {
        if (!isPlace(p) || !isPlace(to)) {
            return BAD;
        }
        List<Integer> from = ropes.get(p);
        if (from == null || ropes.get(to) == null) {
            return found(1);
        }
        if (i < 0 || n < 0 || (long) i + n > from.size()) {
            return found(2);
        }
        if (ropes.get(to).size() + n > 64) {
            return FULL;
        }
        ropes.get(to).addAll(new ArrayList<>(from.subList(i, i + n)));
        return ropes.get(to).size();
    }

    int kind(int p) {
        if (!isPlace(p)) {
            return BAD;
        }
        List<Integer> rope = ropes.get(p);
        if (rope == null) {
            return found(1);
        }
        if (isRing(rope)) {
            return 3;
        }
        return !isSnake(rope) ? 0 : openWays(rope) == 0 ? 2 : 1;
    }

    int corner(int p, int i) {
        if (!isPlace(p)) {
            return BAD;
        }
        List<Integer> rope = ropes.get(p);
        if (rope == null) {
            return found(1);
        }
        if (i < 0 || i > rope.size() || !hasOnlyWaysOfTheCube(rope.subList(0, i))) {
            return found(2);
        }
        return corners(rope).get(i);
    }

    int fault(int p, int what) {
        if (!isPlace(p) || what != 0 && what != 1) {
            return BAD;
        }
        List<Integer> rope = ropes.get(p);
        if (rope == null) {
            return found(1);
        }
        List<Integer> c = corners(rope);
        for (int j = 0; j <= rope.size(); j++) {
            if (j > 0 && rope.get(j - 1) >= d || barred.contains(c.get(j))) {
                return j;
            }
            for (int i = 0; i < j; i++) {
                if (unlike(c.get(i), c.get(j)) < Math.min(j - i, k)) {
                    return what == 0 ? j : i;
                }
            }
        }
        return NONE;
    }

    int open(int p) {
        if (!isPlace(p)) {
            return BAD;
        }
        List<Integer> rope = ropes.get(p);
        if (rope == null) {
            return found(1);
        }
        return isSnake(rope) ? openWays(rope) : found(3);
    }

    int read(int p, int corner) {
        if (!isPlace(p) || !isCorner(corner)) {
            return BAD;
        }
        List<Integer> rope = ropes.get(p);
        if (rope == null) {
            return found(1);
        }
        if (!isRing(rope)) {
            return found(3);
        }
        List<Integer> c = corners(rope).subList(0, rope.size());
        if (c.contains(corner)) {
            return c.indexOf(corner);
        }
        return -10 - (int) c.stream().filter(other -> unlike(other, corner) == 1).count();
    }

    int far(int p) {
        if (!isPlace(p)) {
            return BAD;
        }
        List<Integer> rope = ropes.get(p);
        if (rope == null) {
            return found(1);
        }
        if (!isRing(rope) && !isSnake(rope)) {
            return found(3);
        }
        int far = 0;
        for (int corner = 0; corner < 1 << d; corner++) {
            int here = corner;
            if (corners(rope).stream().allMatch(c -> unlike(c, here) > 1)) {
                far++;
            }
        }
        return far;
    }

    int alike(int p, int q) {
        if (!isPlace(p) || !isPlace(q)) {
            return BAD;
        }
        List<Integer> a = ropes.get(p);
        List<Integer> b = ropes.get(q);
        if (a == null || b == null) {
            return found(1);
        }
        if (isRing(a) && isRing(b) || isSnake(a) && isSnake(b)) {
            return areAlike(a, b, isRing(a)) ? 1 : 0;
        }
        return found(3);
    }

    int least(int p, int i) {
        if (!isPlace(p)) {
            return BAD;
        }
        List<Integer> rope = ropes.get(p);
        if (rope == null) {
            return found(1);
        }
        if (!isRing(rope) && !isSnake(rope)) {
            return found(3);
        }
        return i < 0 || i >= rope.size() ? found(2) : leastForm(rope, isRing(rope)).get(i);
    }

    int turns(int p) {
        if (!isPlace(p)) {
            return BAD;
        }
        List<Integer> rope = ropes.get(p);
        if (rope == null) {
            return found(1);
        }
        return isRing(rope) ? turnsOf(rope) : found(3);
    }

    int longest(int p, boolean ring, int n) {
        if (!isPlace(p) || n < 1 || n > 20000) {
            return BAD;
        }
        if (barred.contains(0)) {
            return STATE;
        }
        List<List<Integer>> best = new ArrayList<>();
        best.add(new ArrayList<>());
        seek(ring, 64, n, row -> {
            if (row.size() > best.get(0).size()) {
                best.set(0, row);
            }
            return true;
        });
        ropes.set(p, new ArrayList<>(best.get(0)));
        return spent ? SPENT : best.get(0).size();
    }

    int count(boolean ring, int steps) {
        if (steps < 0 || steps > 64) {
            return BAD;
        }
        if (barred.contains(0)) {
            return STATE;
        }
        int[] met = {0};
        seek(ring, steps, 20000, row -> {
            met[0] += row.size() == steps ? 1 : 0;
            return true;
        });
        if (spent) {
            return SPENT;
        }
        asked = met[0];
        return 1;
    }

    int classes(boolean ring, int steps) {
        if (steps < 0 || steps > 64) {
            return BAD;
        }
        if (!barred.isEmpty()) {
            return STATE;
        }
        TreeMap<List<Integer>, Boolean> forms = new TreeMap<>(PlainSnakes::compare);
        seek(ring, steps, 20000, row -> {
            if (row.size() == steps) {
                forms.put(leastForm(row, ring), true);
            }
            return forms.size() <= 200;
        });
        if (spent) {
            return SPENT;
        }
        known = new ArrayList<>(forms.keySet());
        asked = known.size();
        return 1;
    }

    int classOf(int i, int p) {
        if (!isPlace(p)) {
            return BAD;
        }
        if (i < 0 || i >= known.size()) {
            return NONE;
        }
        ropes.set(p, new ArrayList<>(known.get(i)));
        return 1;
    }

    int tries() {
        return tries;
    }

    long asked() {
        return asked;
    }

    int many(int what) {
        switch (what) {
            case 0: return d;
            case 1: return k;
            case 2: return (int) ropes.stream().filter(rope -> rope != null).count();
            case 3: return barred.size();
            default: return BAD;
        }
    }

    int finding() {
        return finding;
    }

    int findings(int f) {
        return f < 1 || f > 4 ? BAD : findings[f];
    }

    long digest() {
        List<Long> values = new ArrayList<>();
        values.add((long) d);
        values.add((long) k);
        values.add(barred());
        for (List<Integer> rope : ropes) {
            values.add(rope == null ? -1L : rope.size());
            if (rope != null) {
                rope.forEach(w -> values.add((long) w));
            }
        }
        long h = 17;
        for (long v : values) {
            h = 31 * h + v;
        }
        return h;
    }
}
