/**
 * Snakes on cubes: rows of steps along the edges of a cube of many ways that never come near
 * themselves, and rings that do so. The promises are numbered in the project's DOC.md.
 */
public final class CubeSnakes {
    public static final int BAD = -1, FULL = -2, FINDING = -3, STATE = -4, SPENT = -6, NONE = -9;

    private static final int NOTHING = 1, BEYOND = 2, UNLIKE = 3, SIZE = 4;
    private static final int PLAIN = 0, SNAKE = 1, HEAVY = 2, RING = 3;
    private static final int MOST_WAYS = 6, MOST_CORNERS = 64, MOST_SPREAD = 3;
    private static final int MOST_ROPES = 12, MOST_STEPS = 64;
    private static final int MOST_TRIES = 20000, MOST_CLASSES = 200;

    private final Cube space = new Cube();
    private final Rope[] ropes = new Rope[MOST_ROPES];
    private final Walk walk = new Walk(space);
    private final Turner turner = new Turner();
    private final Namer namer = new Namer();
    private final Rope form = new Rope();
    private final Rope otherForm = new Rope();
    private final Seeker seeker = new Seeker(space);
    private FormList known = new FormList();
    // A refused classes() must leave the known ones as they are, so new ones are gathered apart.
    private FormList gathered = new FormList();
    private int triesMade = 0;
    private long told = 0L;
    private final int[] findingCounts = new int[SIZE + 1];
    private int latestFinding = 0;

    public CubeSnakes() {
        for (int p = 0; p < MOST_ROPES; p++) {
            ropes[p] = new Rope();
        }
    }

    // ---- 1 the cube, words

    public int cube(int d) {
        if (d < 1 || d > MOST_WAYS) {
            return BAD;
        }
        space.become(d);
        return d;
    }

    public int spread(int k) {
        if (k < 1 || k > MOST_SPREAD) {
            return BAD;
        }
        space.spreadBy(k);
        return 1;
    }

    public int bar(int corner, boolean is) {
        if (!space.hasCorner(corner)) {
            return BAD;
        }
        int before = space.isBarred(corner) ? 1 : 0;
        space.setBarred(corner, is);
        return before;
    }

    public long barred() {
        return space.barredCorners();
    }

    public int word(int p) {
        if (!isRope(p)) {
            return BAD;
        }
        int before = ropes[p].isThere() ? 1 : 0;
        ropes[p].begin();
        return before;
    }

    public int step(int p, int way) {
        if (!isRope(p) || way < 0 || way >= MOST_WAYS) {
            return BAD;
        }
        if (ropes[p].length() >= MOST_STEPS) {
            return FULL;
        }
        if (!ropes[p].isThere()) {
            return refuse(NOTHING);
        }
        ropes[p].add(way);
        return ropes[p].length();
    }

    public int at(int p, int i) {
        if (!isRope(p)) {
            return BAD;
        }
        if (!ropes[p].isThere()) {
            return refuse(NOTHING);
        }
        if (i == -1) {
            return ropes[p].length();
        }
        if (i < 0 || i >= ropes[p].length()) {
            return refuse(BEYOND);
        }
        return ropes[p].wayAt(i);
    }

    public int cut(int p, int n) {
        if (!isRope(p)) {
            return BAD;
        }
        if (n < 0) {
            return refuse(SIZE);
        }
        if (!ropes[p].isThere()) {
            return refuse(NOTHING);
        }
        if (n > ropes[p].length()) {
            return refuse(BEYOND);
        }
        ropes[p].shorten(n);
        return n;
    }

    public int tear(int p) {
        if (!isRope(p)) {
            return BAD;
        }
        if (!ropes[p].isThere()) {
            return refuse(NOTHING);
        }
        ropes[p].lose();
        return 1;
    }

    public int join(int p, int i, int n, int to) {
        if (!isRope(p) || !isRope(to)) {
            return BAD;
        }
        if (!ropes[p].isThere() || !ropes[to].isThere()) {
            return refuse(NOTHING);
        }
        int length = ropes[p].length();
        if (i < 0 || n < 0 || i > length || n > length - i) {
            return refuse(BEYOND);
        }
        if (n > MOST_STEPS - ropes[to].length()) {
            return FULL;
        }
        for (int s = 0; s < n; s++) {
            ropes[to].add(ropes[p].wayAt(i + s));
        }
        return ropes[to].length();
    }

    // ---- 2 what words are

    public int kind(int p) {
        if (!isRope(p)) {
            return BAD;
        }
        if (!ropes[p].isThere()) {
            return refuse(NOTHING);
        }
        return kindOf(ropes[p]);
    }

    public int corner(int p, int i) {
        if (!isRope(p)) {
            return BAD;
        }
        if (!ropes[p].isThere()) {
            return refuse(NOTHING);
        }
        walk.follow(ropes[p]);
        if (i < 0 || i > walk.lastPlace()) {
            return refuse(BEYOND);
        }
        return walk.cornerAt(i);
    }

    public int fault(int p, int what) {
        if (!isRope(p) || what < 0 || what > 1) {
            return BAD;
        }
        if (!ropes[p].isThere()) {
            return refuse(NOTHING);
        }
        walk.follow(ropes[p]);
        return what == 0 ? walk.faultPlace() : walk.faultCause();
    }

    public int open(int p) {
        if (!isRope(p)) {
            return BAD;
        }
        if (!ropes[p].isThere()) {
            return refuse(NOTHING);
        }
        if (!isSnake(kindOf(ropes[p]))) {
            return refuse(UNLIKE);
        }
        return walk.openSteps();
    }

    public int read(int p, int corner) {
        if (!isRope(p) || !space.hasCorner(corner)) {
            return BAD;
        }
        if (!ropes[p].isThere()) {
            return refuse(NOTHING);
        }
        if (kindOf(ropes[p]) != RING) {
            return refuse(UNLIKE);
        }
        int place = walk.placeOf(corner);
        if (place != NONE) {
            return place;
        }
        return -10 - Long.bitCount(walk.corners() & space.near(corner, 1));
    }

    public int far(int p) {
        if (!isRope(p)) {
            return BAD;
        }
        if (!ropes[p].isThere()) {
            return refuse(NOTHING);
        }
        if (kindOf(ropes[p]) == PLAIN) {
            return refuse(UNLIKE);
        }
        long reached = CornerSet.grown(walk.corners(), space.ways());
        return Long.bitCount(space.allCorners() & ~reached);
    }

    public int alike(int p, int q) {
        if (!isRope(p) || !isRope(q)) {
            return BAD;
        }
        if (!ropes[p].isThere() || !ropes[q].isThere()) {
            return refuse(NOTHING);
        }
        int kind = kindOf(ropes[p]);
        int otherKind = kindOf(ropes[q]);
        boolean rings = kind == RING && otherKind == RING;
        if (!rings && !(isSnake(kind) && isSnake(otherKind))) {
            return refuse(UNLIKE);
        }
        namer.writeLeast(ropes[p], rings, form);
        namer.writeLeast(ropes[q], rings, otherForm);
        return form.isSame(otherForm) ? 1 : 0;
    }

    public int least(int p, int i) {
        if (!isRope(p)) {
            return BAD;
        }
        if (!ropes[p].isThere()) {
            return refuse(NOTHING);
        }
        int kind = kindOf(ropes[p]);
        if (kind == PLAIN) {
            return refuse(UNLIKE);
        }
        if (i < 0 || i >= ropes[p].length()) {
            return refuse(BEYOND);
        }
        namer.writeLeast(ropes[p], kind == RING, form);
        return form.wayAt(i);
    }

    public int turns(int p) {
        if (!isRope(p)) {
            return BAD;
        }
        if (!ropes[p].isThere()) {
            return refuse(NOTHING);
        }
        if (kindOf(ropes[p]) != RING) {
            return refuse(UNLIKE);
        }
        return turner.turnsOf(walk.corners(), space.ways());
    }

    // ---- 3 seeking

    public int longest(int p, boolean ring, int n) {
        if (!isRope(p) || n < 1 || n > MOST_TRIES) {
            return BAD;
        }
        if (space.isBarred(0)) {
            return STATE;
        }
        ropes[p].begin();
        triesMade = 0;
        seeker.begin(ring, MOST_STEPS);
        for (int t = 0; t <= n; t++) {
            if (seeker.isMet() && seeker.row().length() > ropes[p].length()) {
                ropes[p].copy(seeker.row());
            }
            if (!goesOn(t, n)) {
                return ropes[p].length();
            }
        }
        return SPENT;
    }

    public int count(boolean ring, int steps) {
        if (steps < 0 || steps > MOST_STEPS) {
            return BAD;
        }
        if (space.isBarred(0)) {
            return STATE;
        }
        int met = countMet(ring, steps);
        if (met == SPENT) {
            return SPENT;
        }
        told = met;
        return 1;
    }

    public int classes(boolean ring, int steps) {
        if (steps < 0 || steps > MOST_STEPS) {
            return BAD;
        }
        if (!space.isFree()) {
            return STATE;
        }
        if (!gather(ring, steps)) {
            return SPENT;
        }
        FormList replaced = known;
        known = gathered;
        gathered = replaced;
        told = known.size();
        return 1;
    }

    public int classOf(int i, int p) {
        if (!isRope(p)) {
            return BAD;
        }
        if (i < 0 || i >= known.size()) {
            return NONE;
        }
        known.copyTo(i, ropes[p]);
        return 1;
    }

    public int tries() {
        return triesMade;
    }

    public long asked() {
        return told;
    }

    // ---- 4 what is told

    public int many(int what) {
        switch (what) {
            case 0: return space.ways();
            case 1: return space.theSpread();
            case 2: return ropesThere();
            case 3: return Long.bitCount(space.barredCorners());
            default: return BAD;
        }
    }

    public int finding() {
        return latestFinding;
    }

    public int findings(int f) {
        return f < NOTHING || f > SIZE ? BAD : findingCounts[f];
    }

    public long digest() {
        long h = 17L;
        h = 31L * h + space.ways();
        h = 31L * h + space.theSpread();
        h = 31L * h + space.barredCorners();
        for (int p = 0; p < MOST_ROPES; p++) {
            h = 31L * h + (ropes[p].isThere() ? ropes[p].length() : -1);
            for (int i = 0; i < ropes[p].length(); i++) {
                h = 31L * h + ropes[p].wayAt(i);
            }
        }
        return h;
    }

    private static boolean isRope(int p) {
        return p >= 0 && p < MOST_ROPES;
    }

    private static boolean isSnake(int kind) {
        return kind == SNAKE || kind == HEAVY;
    }

    private int refuse(int which) {
        if (which >= NOTHING && which <= SIZE) {
            findingCounts[which]++;
            latestFinding = which;
        }
        return FINDING;
    }

    /** The kind of a rope; the walk has followed the rope then. */
    private int kindOf(Rope rope) {
        walk.follow(rope);
        if (walk.isRing()) {
            return RING;
        }
        if (walk.faultPlace() != NONE) {
            return PLAIN;
        }
        return walk.openSteps() == 0 ? HEAVY : SNAKE;
    }

    private int ropesThere() {
        int there = 0;
        for (int p = 0; p < MOST_ROPES; p++) {
            if (ropes[p].isThere()) {
                there++;
            }
        }
        return there;
    }

    /** Goes on to the next try behind so many; false if there is none. */
    private boolean goesOn(int made, int most) {
        if (!seeker.goOn()) {
            return false;
        }
        // The one behind the most is not made: it only tells that there would be more.
        triesMade = Math.min(made + 1, most);
        return true;
    }

    private boolean isMetWith(int steps) {
        return seeker.isMet() && seeker.row().length() == steps;
    }

    /** How many rows with so many steps are met; SPENT if that takes too many tries. */
    private int countMet(boolean ring, int steps) {
        int met = 0;
        triesMade = 0;
        seeker.begin(ring, steps);
        for (int t = 0; t <= MOST_TRIES; t++) {
            if (isMetWith(steps)) {
                met++;
            }
            if (!goesOn(t, MOST_TRIES)) {
                return met;
            }
        }
        return SPENT;
    }

    /** Gathers the classes of the rows with so many steps; false if that is spent. */
    private boolean gather(boolean ring, int steps) {
        triesMade = 0;
        gathered.begin(steps);
        seeker.begin(ring, steps);
        for (int t = 0; t <= MOST_TRIES; t++) {
            if (isMetWith(steps) && isLeastForm(seeker.row(), ring)) {
                if (gathered.isFull()) {
                    return false;
                }
                gathered.append(seeker.row());
            }
            if (!goesOn(t, MOST_TRIES)) {
                return true;
            }
        }
        return false;
    }

    /**
     * Whether a met row is the least form of its class. Seeking goes through the rows that name their
     * ways in order, the lesser first: so of each class it meets this one first, and in their order.
     */
    private boolean isLeastForm(Rope row, boolean ring) {
        namer.writeLeast(row, ring, form);
        return form.isSame(row);
    }

    /** Sets of corners: bit c stands for corner c. */
    private static final class CornerSet {
        /** For each way the corners whose bit of this way is 0. */
        private static final long[] WITHOUT = {
            0x5555555555555555L, 0x3333333333333333L, 0x0f0f0f0f0f0f0f0fL,
            0x00ff00ff00ff00ffL, 0x0000ffff0000ffffL, 0x00000000ffffffffL
        };

        static long without(int way) {
            return way >= 0 && way < WITHOUT.length ? WITHOUT[way] : 0L;
        }

        static boolean holds(long set, int corner) {
            return ((set >>> corner) & 1L) != 0L;
        }

        /** Where the corners of a set come to by one step of a way. */
        static long stepped(long set, int way) {
            long low = without(way);
            int shift = 1 << way;
            return ((set & low) << shift) | ((set >>> shift) & low);
        }

        /** A set, and all that is one step from it. */
        static long grown(long set, int ways) {
            long all = set;
            for (int way = 0; way < ways; way++) {
                all |= stepped(set, way);
            }
            return all;
        }

        /** Where the corners of a set come to if two ways change places, the lesser one first. */
        static long exchanged(long set, int way, int greater) {
            long rising = without(greater) & ~without(way);
            int shift = (1 << greater) - (1 << way);
            long falling = rising << shift;
            return ((set & rising) << shift) | ((set & falling) >>> shift) | (set & ~(rising | falling));
        }
    }

    /** The cube, its barred corners and the spread. */
    private static final class Cube {
        private int ways = 3;
        private int spread = 2;
        private long barredSet = 0L;
        /** At 64 r + c: the corners up to r steps from corner c, in the cube with most ways. */
        private final long[] balls = new long[MOST_SPREAD * MOST_CORNERS];

        Cube() {
            for (int c = 0; c < MOST_CORNERS; c++) {
                long ball = 1L << c;
                for (int r = 0; r < MOST_SPREAD; r++) {
                    balls[r * MOST_CORNERS + c] = ball;
                    ball = CornerSet.grown(ball, MOST_WAYS);
                }
            }
        }

        void become(int d) {
            ways = d;
            barredSet = 0L;
        }

        void spreadBy(int k) {
            spread = k;
        }

        int ways() {
            return ways;
        }

        int theSpread() {
            return spread;
        }

        long barredCorners() {
            return barredSet;
        }

        long allCorners() {
            return -1L >>> (MOST_CORNERS - (1 << ways));
        }

        boolean hasCorner(int c) {
            return c >= 0 && c < (1 << ways);
        }

        boolean isFree() {
            return barredSet == 0L;
        }

        boolean isBarred(int c) {
            return CornerSet.holds(barredSet, c);
        }

        void setBarred(int c, boolean is) {
            long bit = 1L << c;
            barredSet = is ? barredSet | bit : barredSet & ~bit;
        }

        /** The corners up to so many steps from a corner (below 0: none); some may lie outside. */
        long near(int c, int steps) {
            int place = steps * MOST_CORNERS + c;
            return c >= 0 && c < MOST_CORNERS && place >= 0 && place < balls.length ? balls[place] : 0L;
        }

        /** Whether two corners may stand so many steps from one another. */
        boolean mayStand(int c, int other, int steps) {
            return Integer.bitCount(c ^ other) >= Math.min(steps, spread);
        }

        int shortestRing() {
            return spread == 1 ? 4 : 2 * spread;
        }
    }

    /** A row of steps, or a missing one, which has no steps. */
    private static final class Rope {
        private boolean there = false;
        private int length = 0;
        private final int[] steps = new int[MOST_STEPS];

        boolean isThere() {
            return there;
        }

        int length() {
            return length;
        }

        void begin() {
            there = true;
            length = 0;
        }

        void lose() {
            there = false;
            length = 0;
        }

        void add(int way) {
            if (length >= 0 && length < steps.length) {
                steps[length] = way;
                length++;
            }
        }

        void put(int i, int way) {
            if (i >= 0 && i < length && i < steps.length) {
                steps[i] = way;
            }
        }

        int wayAt(int i) {
            return i >= 0 && i < length && i < steps.length ? steps[i] : 0;
        }

        void shorten(int n) {
            if (n >= 0 && n < length) {
                length = n;
            }
        }

        void copy(Rope other) {
            begin();
            for (int i = 0; i < other.length(); i++) {
                add(other.wayAt(i));
            }
        }

        boolean isSame(Rope other) {
            if (length != other.length()) {
                return false;
            }
            for (int i = 0; i < length; i++) {
                if (wayAt(i) != other.wayAt(i)) {
                    return false;
                }
            }
            return true;
        }
    }

    /** The corners to which a rope comes on a cube, and what they make of it. */
    private static final class Walk {
        private final Cube space;
        /** One more than a rope comes to: openSteps() looks at what comes behind. */
        private final int[] passed = new int[MOST_STEPS + 2];
        private int last = 0;
        private boolean whole = true;

        Walk(Cube space) {
            this.space = space;
        }

        /** Goes along a rope, up to the first way that the cube has not. */
        void follow(Rope rope) {
            last = 0;
            passed[0] = 0;
            whole = true;
            for (int i = 0; i < rope.length() && i < MOST_STEPS; i++) {
                int way = rope.wayAt(i);
                if (way >= space.ways()) {
                    whole = false;
                    return;
                }
                last = i + 1;
                passed[last] = passed[i] ^ (1 << way);
            }
        }

        int lastPlace() {
            return last;
        }

        int cornerAt(int i) {
            return i >= 0 && i < passed.length ? passed[i] : 0;
        }

        long corners() {
            long set = 0L;
            for (int i = 0; i <= last; i++) {
                set |= 1L << cornerAt(i);
            }
            return set;
        }

        int placeOf(int corner) {
            for (int i = 0; i <= last; i++) {
                if (cornerAt(i) == corner) {
                    return i;
                }
            }
            return NONE;
        }

        /** The first place that makes this no snake; NONE if it is one. */
        int faultPlace() {
            for (int j = 0; j <= last; j++) {
                if (causeAt(j) != NONE) {
                    return j;
                }
            }
            return whole ? NONE : last + 1;
        }

        /** The place that is too near to the first faulty one, or this one itself; NONE of a snake. */
        int faultCause() {
            int j = faultPlace();
            return j == NONE || j > last ? j : causeAt(j);
        }

        /** How many steps may come behind this snake. */
        int openSteps() {
            int next = last + 1;
            int open = 0;
            if (next >= passed.length) {
                return 0;
            }
            for (int way = 0; way < space.ways(); way++) {
                passed[next] = cornerAt(last) ^ (1 << way);
                if (causeAt(next) == NONE) {
                    open++;
                }
            }
            return open;
        }

        boolean isRing() {
            if (!whole || last < space.shortestRing() || cornerAt(last) != 0) {
                return false;
            }
            for (int j = 0; j < last; j++) {
                if (space.isBarred(cornerAt(j)) || !fitsInRing(j)) {
                    return false;
                }
            }
            return true;
        }

        private int causeAt(int j) {
            int c = cornerAt(j);
            if (space.isBarred(c)) {
                return j;
            }
            for (int i = 0; i < j; i++) {
                if (!space.mayStand(cornerAt(i), c, j - i)) {
                    return i;
                }
            }
            return NONE;
        }

        private boolean fitsInRing(int j) {
            for (int i = 0; i < j; i++) {
                int between = Math.min(j - i, last - (j - i));
                if (!space.mayStand(cornerAt(i), cornerAt(j), between)) {
                    return false;
                }
            }
            return true;
        }
    }

    /** Counts the turns of the cube by which a set of corners becomes itself. */
    private static final class Turner {
        /** At x: the set with the bits of x turned. */
        private final long[] turned = new long[MOST_CORNERS];

        int turnsOf(long set, int ways) {
            int corners = 1 << ways;
            turnAll(set, ways);
            int turns = 0;
            int orders = ordersOf(ways);
            for (int order = 0; order < orders; order++) {
                long moved = ordered(set, ways, order);
                for (int x = 0; x < corners && x < turned.length; x++) {
                    if (turned[x] == moved) {
                        turns++;
                    }
                }
            }
            return turns;
        }

        private void turnAll(long set, int ways) {
            turned[0] = set;
            for (int way = 0; way < ways; way++) {
                int bit = 1 << way;
                for (int x = 0; x < bit && x + bit < turned.length; x++) {
                    turned[x + bit] = CornerSet.stepped(turned[x], way);
                }
            }
        }

        private static int ordersOf(int ways) {
            int orders = 1;
            for (int way = 2; way <= ways; way++) {
                orders *= way;
            }
            return orders;
        }

        /** The set with its ways in another order: each number of an order gives one of its own. */
        private static long ordered(long set, int ways, int order) {
            long result = set;
            int rest = order;
            for (int way = ways - 1; way > 0; way--) {
                int choices = way + 1;
                int other = rest % choices;
                rest /= choices;
                if (other < way) {
                    result = CornerSet.exchanged(result, other, way);
                }
            }
            return result;
        }
    }

    /** Writes least forms. */
    private static final class Namer {
        /** The name that each way got in the present reading, or NONE. */
        private final int[] names = new int[MOST_WAYS];

        void writeLeast(Rope row, boolean ring, Rope least) {
            least.begin();
            for (int i = 0; i < row.length(); i++) {
                // No name is so great: the first reading is less than this.
                least.add(MOST_WAYS);
            }
            int beginnings = ring ? row.length() : 1;
            for (int from = 0; from < beginnings; from++) {
                takeIfLess(row, from, true, least);
                takeIfLess(row, from, false, least);
            }
        }

        private void takeIfLess(Rope row, int from, boolean forward, Rope least) {
            forgetNames();
            int length = row.length();
            int place = forward ? from : before(from, length);
            int named = 0;
            boolean less = false;
            for (int i = 0; i < length; i++) {
                int way = row.wayAt(place);
                place = forward ? behind(place, length) : before(place, length);
                if (nameOf(way) == NONE) {
                    giveName(way, named);
                    named++;
                }
                int name = nameOf(way);
                if (!less && name > least.wayAt(i)) {
                    return;
                }
                less = less || name < least.wayAt(i);
                least.put(i, name);
            }
        }

        private static int behind(int place, int length) {
            return place + 1 < length ? place + 1 : 0;
        }

        private static int before(int place, int length) {
            return place > 0 ? place - 1 : length - 1;
        }

        private void forgetNames() {
            for (int way = 0; way < MOST_WAYS; way++) {
                names[way] = NONE;
            }
        }

        private int nameOf(int way) {
            return way >= 0 && way < names.length ? names[way] : 0;
        }

        private void giveName(int way, int name) {
            if (way >= 0 && way < names.length) {
                names[way] = name;
            }
        }
    }

    /** Goes from try to try through the snakes or rings of a cube. */
    private static final class Seeker {
        /** More looks than lie between two tries: 64 steps taken back, 6 ways behind each. */
        private static final int MOST_LOOKS = 1000;

        private final Cube space;
        private final Rope row = new Rope();
        private final int[] passed = new int[MOST_STEPS + 1];
        /** The greatest way that may come behind the row, for each of its lengths. */
        private final int[] greatest = new int[MOST_STEPS + 1];
        /** The corners too near to one up to this place for any that comes the spread behind. */
        private final long[] shut = new long[MOST_STEPS + 1];
        /** The corners to which no step may go from this place. */
        private final long[] taken = new long[MOST_STEPS + 1];
        private boolean ring = false;
        private boolean closed = false;
        private int deepest = 0;

        Seeker(Cube space) {
            this.space = space;
        }

        /** Begins with the row without steps; rows with as many steps as deepest have none behind. */
        void begin(boolean ofRings, int mostSteps) {
            ring = ofRings;
            deepest = Math.min(mostSteps, MOST_STEPS);
            closed = false;
            row.begin();
            enter(0, space.isFree() ? 0 : space.ways() - 1);
        }

        Rope row() {
            return row;
        }

        boolean isMet() {
            return closed || !ring;
        }

        /** Goes on to the next try; false if there is none. */
        boolean goOn() {
            int way = closed || row.length() >= deepest ? takeBack() : 0;
            for (int looks = 0; looks < MOST_LOOKS && way >= 0; looks++) {
                if (way > greatestBehind(row.length())) {
                    way = takeBack();
                } else if (goesOnBy(way)) {
                    return true;
                } else {
                    way++;
                }
            }
            return false;
        }

        /** Takes the last step back: the way that comes next there, or NONE if there is no step. */
        private int takeBack() {
            int left = row.length() - 1;
            closed = false;
            if (left < 0) {
                return NONE;
            }
            int way = row.wayAt(left);
            row.shorten(left);
            return way + 1;
        }

        private boolean goesOnBy(int way) {
            int n = row.length();
            if (n >= MOST_STEPS) {
                return false;
            }
            int to = passed[n] ^ (1 << way);
            if (ring && to == 0) {
                closed = closesWith(n + 1);
                if (closed) {
                    row.add(way);
                }
                return closed;
            }
            if (CornerSet.holds(taken[n], to)) {
                return false;
            }
            row.add(way);
            enter(to, Math.max(greatest[n], way + 1));
            return true;
        }

        private int greatestBehind(int n) {
            return n >= 0 && n < greatest.length ? greatest[n] : NONE;
        }

        /** Whether the row, which is open, is a ring if so many steps lead back to its begin. */
        private boolean closesWith(int n) {
            if (n < space.shortestRing()) {
                return false;
            }
            // What stands too near in an open row stands too near to one of its first corners.
            for (int i = 0; i < space.theSpread() && i < n; i++) {
                for (int j = i + 1; j < n && j < passed.length; j++) {
                    int between = Math.min(j - i, n - (j - i));
                    if (!space.mayStand(passed[i], passed[j], between)) {
                        return false;
                    }
                }
            }
            return true;
        }

        private void enter(int corner, int greatestWay) {
            int n = row.length();
            if (n >= passed.length) {
                return;
            }
            int k = space.theSpread();
            passed[n] = corner;
            greatest[n] = Math.min(greatestWay, space.ways() - 1);
            shut[n] = shutUpTo(n - 1) | tooNear(n, k - 1);
            long all = shutUpTo(n + 1 - k);
            for (int behind = 1; behind < k; behind++) {
                all |= tooNear(n + 1 - behind, behind - 1);
            }
            taken[n] = all;
        }

        private long shutUpTo(int i) {
            return i >= 0 && i < shut.length ? shut[i] : space.barredCorners();
        }

        /** The corners up to so many steps from the one at a place to which the row may not come. */
        private long tooNear(int i, int steps) {
            if (i < 0 || i >= passed.length) {
                return 0L;
            }
            long near = space.near(passed[i], steps);
            // A ring has to come home, so that near the begin it may come near its first corners.
            long home = ring ? space.near(0, space.theSpread() - 1 - i) : 0L;
            return (near & ~home) | (1L << passed[i]);
        }
    }

    /** Least forms with as many steps each, in their order. */
    private static final class FormList {
        private final byte[] ways = new byte[MOST_CLASSES * MOST_STEPS];
        private int size = 0;
        private int steps = 0;

        void begin(int stepsOfEach) {
            size = 0;
            steps = stepsOfEach;
        }

        int size() {
            return size;
        }

        boolean isFull() {
            return size >= MOST_CLASSES;
        }

        void append(Rope form) {
            if (isFull()) {
                return;
            }
            for (int s = 0; s < steps && s < MOST_STEPS; s++) {
                ways[size * MOST_STEPS + s] = (byte) form.wayAt(s);
            }
            size++;
        }

        void copyTo(int i, Rope rope) {
            rope.begin();
            for (int s = 0; s < steps; s++) {
                rope.add(wayAt(i * MOST_STEPS + s));
            }
        }

        private int wayAt(int place) {
            return place >= 0 && place < ways.length ? ways[place] : 0;
        }
    }
}
