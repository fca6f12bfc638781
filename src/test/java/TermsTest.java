/** The document's chapter "Terms": a test of its own for each sentence of it that names an edge. */
public final class TermsTest extends Checks {
    private static final String[] CALLS_OF_A_ROPE = {
        "word(P)", "step(P, 0)", "at(P, -1)", "cut(P, 0)", "tear(P)", "join(P, 0, 0, 5)", "join(5, 0, 0, P)", "kind(P)",
        "corner(P, 0)", "fault(P, 0)", "open(P)", "read(P, 0)", "far(P)", "alike(P, 5)", "alike(5, P)", "least(P, 0)",
        "turns(P)", "longest(P, false, 20000)", "classOf(0, P)"
    };
    private static final String[] CALLS_OF_A_ROPE_THAT_IS_THERE = {
        "step(P, 0)", "at(P, -1)", "cut(P, 0)", "tear(P)", "join(P, 0, 0, 5)", "join(5, 0, 0, P)", "join(P, 0, 0, P)",
        "kind(P)", "corner(P, 0)", "fault(P, 0)", "fault(P, 1)", "open(P)", "read(P, 0)", "far(P)", "alike(P, 5)",
        "alike(5, P)", "alike(P, P)", "least(P, 0)", "turns(P)"
    };

    public static void main(String[] args) {
        orderOfAnswers();
        whatIsRefused();
        findingsOfCalls();
        theCube();
        theSpread();
        ropes();
        waysAndCorners();
        whatASnakeIs();
        whatNearIs();
        ropeWithoutSteps();
        whatARingIs();
        wayBack();
        kinds();
        triesOfSnakes();
        triesOfRings();
        triesInOrder();
        theLongest();
        turns();
        alike();
        leastForm();
        end();
    }

    private static String of(String call, int p) {
        return call.replace("P", String.valueOf(p));
    }

    // ---- ANSWERS

    private static void orderOfAnswers() {
        about("Refused is, the first of these that fits: BAD ahead of FULL");
        CubeSnakes x = with(6, 1, wayThroughAll(), "0");
        refused(x, "step(0, 0)", FULL);
        refused(x, "step(0, 6)", BAD);
        refused(x, "step(0, -1)", BAD);
        refused(x, "join(1, 0, 1, 0)", FULL);
        refused(x, "join(12, 0, 1, 0)", BAD);
        refused(x, "join(-1, 0, 1, 0)", BAD);

        about("Refused is, the first of these that fits: BAD ahead of STATE");
        x.bar(0, true);
        refused(x, "longest(1, false, 1)", STATE);
        refused(x, "longest(12, false, 1)", BAD);
        refused(x, "longest(-1, true, 1)", BAD);
        refused(x, "longest(1, false, 0)", BAD);
        refused(x, "longest(1, true, 20001)", BAD);
        for (String call : new String[] {"count(false, ", "count(true, ", "classes(false, ", "classes(true, "}) {
            refused(x, call + "4)", STATE);
            refused(x, call + "-1)", BAD);
            refused(x, call + "65)", BAD);
        }

        about("Refused is, the first of these that fits: STATE ahead of SPENT");
        x = with(6, 1, "0");
        spends(x, "count(false, 64)", 20000);
        spends(x, "classes(false, 64)", 20000);
        x.bar(0, true);
        refused(x, "count(false, 64)", STATE);
        refused(x, "classes(false, 64)", STATE);
        refused(x, "classes(false, 8)", STATE);
        refused(x, "longest(0, false, 1)", STATE);
        rope(x, 0, "0");

        about("Refused is, the first of these that fits: BAD ahead of FINDING");
        x = with(3, 2, "0");
        refused(x, "step(1, 6)", BAD);
        refused(x, "at(12, 9)", BAD);
        refused(x, "cut(12, -1)", BAD);
        refused(x, "join(1, -1, -1, 12)", BAD);
        refused(x, "join(12, -1, -1, 1)", BAD);
        refused(x, "corner(12, 9)", BAD);
        refused(x, "fault(1, 2)", BAD);
        refused(x, "read(1, 8)", BAD);
        refused(x, "read(0, -1)", BAD);
        refused(x, "alike(1, 12)", BAD);
        refused(x, "alike(12, 1)", BAD);
        refused(x, "least(12, 9)", BAD);

        about("Refused is, the first of these that fits: BAD ahead of NONE");
        refused(x, "classOf(0, 12)", BAD);
        refused(x, "classOf(-1, -1)", BAD);
        refused(x, "classOf(0, 0)", NONE);
    }

    private static void whatIsRefused() {
        about("What is refused changes nothing but finding(), findings()");
        CubeSnakes x = with(4, 2, "0", "01203123", "-", "3140");
        due(x, "classes(true, 8)", 1);
        due(x, "classOf(1, 4)", 1);
        bar(x, 0, 9);
        String[] bad = {
            "cube(0)", "cube(7)", "spread(0)", "spread(4)", "bar(16, true)", "bar(-1, false)", "word(12)", "step(0, 6)",
            "at(12, 0)", "cut(12, 0)", "tear(12)", "join(0, 0, 1, 12)", "kind(12)", "corner(12, 0)", "fault(0, 2)", "open(12)",
            "read(1, 16)", "far(12)", "alike(0, 12)", "least(12, 0)", "turns(12)", "longest(0, false, 0)", "count(false, 65)",
            "classes(true, 65)", "classOf(0, 12)", "many(4)", "findings(0)", "findings(5)"
        };
        for (String call : bad) {
            refused(x, call, BAD);
        }
        refused(x, "longest(3, true, 9)", STATE);
        refused(x, "count(true, 8)", STATE);
        refused(x, "classes(true, 8)", STATE);
        refused(x, "classOf(3, 3)", NONE);
        finds(x, "at(0, 1)", BEYOND);
        finds(x, "cut(3, 5)", BEYOND);
        finds(x, "cut(3, -1)", SIZE);
        finds(x, "tear(2)", NOTHING);
        finds(x, "join(3, 2, 3, 0)", BEYOND);
        finds(x, "open(3)", UNLIKE);
        rope(x, 0, "0");
        rope(x, 1, "01203123");
        rope(x, 3, "3140");
        due(x, "many(2)", 4);
        String[] rings = {"01203123", "01203213", "01230123"};
        for (int i = 0; i < rings.length; i++) {
            due(x, "classOf(" + i + ", 5)", 1);
            rope(x, 5, rings[i]);
        }

        about("What is refused changes nothing: the ROPE to which no more can come");
        x = with(3, 2, "0".repeat(60), "01201");
        refused(x, "join(1, 0, 5, 0)", FULL);
        rope(x, 0, "0".repeat(60));

        about("SPENT (more tries than told): nothing but tries() changes, and the ROPE of longest()");
        x = with(6, 2, "0", "01203123");
        due(x, "classes(true, 8)", 1);
        due(x, "asked()", 3);
        spends(x, "count(false, 20)", 20000);
        spends(x, "classes(false, 30)", 20000);
        due(x, "classOf(2, 2)", 1);
        rope(x, 2, "01230123");
        due(x, "classOf(3, 2)", NONE);
        due(x, "longest(3, false, 2)", SPENT);
        rope(x, 3, "01");
        due(x, "finding()", 0);
        due(x, "asked()", 3);
        due(x, "digest()", digestOf(6, 2, 0, "0", "01203123", "01230123", "01"));
    }

    private static void findingsOfCalls() {
        about("FINDINGS: 1 NOTHING (a ROPE that is missing)");
        CubeSnakes x = with(3, 2, "-", "-", "-", "-", "-", "012");
        for (int p : new int[] {0, 11}) {
            for (String call : CALLS_OF_A_ROPE_THAT_IS_THERE) {
                finds(x, of(call, p), NOTHING);
            }
        }

        about("FINDINGS: 1 NOTHING, ahead of BEYOND and of UNLIKE");
        finds(x, "at(0, 9)", NOTHING);
        finds(x, "at(0, -2)", NOTHING);
        finds(x, "cut(0, 9)", NOTHING);
        finds(x, "join(0, 9, 9, 5)", NOTHING);
        finds(x, "join(5, 9, 9, 0)", NOTHING);
        finds(x, "corner(0, 9)", NOTHING);
        finds(x, "least(0, 9)", NOTHING);
        set(x, 4, "00");
        finds(x, "alike(4, 0)", NOTHING);
        finds(x, "alike(0, 4)", NOTHING);

        about("FINDINGS: 2 BEYOND (a place that there is not)");
        finds(x, "at(5, 3)", BEYOND);
        finds(x, "cut(5, 4)", BEYOND);
        finds(x, "join(5, 0, 4, 5)", BEYOND);
        finds(x, "corner(5, 4)", BEYOND);
        finds(x, "least(5, 3)", BEYOND);

        about("FINDINGS: 3 UNLIKE (a ROPE of another KIND)");
        String[] ofSnakes = {"open(P)", "far(P)", "least(P, 0)", "alike(P, 5)", "alike(5, P)"};
        String[] ofRings = {"read(P, 0)", "turns(P)", "far(P)", "least(P, 0)", "alike(P, 6)", "alike(6, P)"};
        set(x, 6, "012012");
        for (String call : ofSnakes) {
            finds(x, of(call, 4), UNLIKE);
        }
        for (String call : ofRings) {
            finds(x, of(call, 4), UNLIKE);
        }
        finds(x, "open(6)", UNLIKE);
        finds(x, "read(5, 0)", UNLIKE);
        finds(x, "turns(5)", UNLIKE);
        finds(x, "alike(5, 6)", UNLIKE);
        finds(x, "alike(6, 5)", UNLIKE);
        finds(x, "alike(4, 4)", UNLIKE);

        about("FINDINGS: 3 UNLIKE, ahead of BEYOND");
        finds(x, "least(4, 9)", UNLIKE);
        finds(x, "least(4, -1)", UNLIKE);

        about("FINDINGS: 4 SIZE (fewer than none)");
        finds(x, "cut(5, -1)", SIZE);
        due(x, "cut(5, 0)", 0);
    }

    // ---- THE CUBE

    private static void theCube() {
        about("THE CUBE has D WAYS (3 at first)");
        due(new CubeSnakes(), "many(0)", 3);

        about("THE CUBE has D WAYS 0 .. D - 1 (1 .. 6)");
        for (int d = 1; d <= 6; d++) {
            CubeSnakes x = with(d, 2, "" + (d - 1), "" + Math.min(d, 5));
            due(x, "many(0)", d);
            due(x, "fault(0, 0)", NONE);
            due(x, "fault(1, 0)", d < 6 ? 1 : NONE);
            due(x, "corner(0, 1)", 1 << (d - 1));
        }
        refused(new CubeSnakes(), "cube(0)", BAD);
        refused(new CubeSnakes(), "cube(7)", BAD);

        about("its CORNERS 0 .. 2^D - 1");
        for (int d = 1; d <= 6; d++) {
            CubeSnakes x = with(d, 1, d > 1 ? "0101" : "");
            int last = (1 << d) - 1;
            refused(x, "bar(" + (last + 1) + ", true)", BAD);
            refused(x, "bar(-1, true)", BAD);
            refused(x, "read(0, " + (last + 1) + ")", BAD);
            refused(x, "read(0, -1)", BAD);
            if (d > 1) {
                due(x, "read(0, 0)", 0);
                due(x, "read(0, " + last + ")", d == 2 ? 2 : d == 3 ? -11 : -10);
            }
            due(x, "bar(" + last + ", true)", 0);
            due(x, "bar(0, true)", 0);
            due(x, "barred()", 1L << last | 1);
        }

        about("a STEP by WAY w turns bit w");
        for (int w = 0; w < 6; w++) {
            CubeSnakes x = with(6, 2, "" + w + w, "543210".substring(0, 6 - w));
            due(x, "corner(0, 1)", 1 << w);
            due(x, "corner(0, 2)", 0);
            due(x, "corner(1, " + (6 - w) + ")", 64 - (1 << w));
        }

        about("A CORNER may be BARRED (none at first)");
        CubeSnakes x = new CubeSnakes();
        due(x, "barred()", 0);
        due(x, "many(3)", 0);
        for (int c = 0; c < 8; c++) {
            due(x, "bar(" + c + ", false)", 0);
        }
        for (int c = 0; c < 8; c++) {
            due(x, "bar(" + c + ", true)", 0);
            due(x, "many(3)", c + 1);
        }
        due(x, "barred()", 255);
    }

    private static void theSpread() {
        about("THE SPREAD is k (2 at first)");
        due(new CubeSnakes(), "many(1)", 2);

        about("THE SPREAD is k (1 .. 3)");
        CubeSnakes x = new CubeSnakes();
        refused(x, "spread(0)", BAD);
        refused(x, "spread(4)", BAD);
        for (int k = 1; k <= 3; k++) {
            due(x, "spread(" + k + ")", 1);
            due(x, "many(1)", k);
        }
    }

    // ---- ROPES and KINDS

    private static void ropes() {
        about("ROPES 0 .. 11: there is none of another number");
        CubeSnakes x = with(3, 2, "-", "-", "-", "-", "-", "0");
        due(x, "classes(false, 1)", 1);
        for (String call : CALLS_OF_A_ROPE) {
            for (int p : new int[] {-1, 12, Integer.MIN_VALUE, Integer.MAX_VALUE}) {
                refused(x, of(call, p), BAD);
            }
        }

        about("ROPES 0 .. 11: the first and the last one are ROPES");
        for (String call : CALLS_OF_A_ROPE) {
            for (int p : new int[] {0, 11}) {
                CubeSnakes y = with(3, 2, "-", "-", "-", "-", "-", "0");
                due(y, "classes(false, 1)", 1);
                set(y, p, "0101");
                if (ask(y, of(call, p)) == BAD) {
                    due(y, of(call, p), 0);
                }
            }
        }

        about("ROPES are rows of 0 to 64 STEPS");
        x = with(3, 2, "");
        due(x, "at(0, -1)", 0);
        for (int n = 1; n <= 64; n++) {
            due(x, "step(0, " + n % 6 + ")", n);
        }
        refused(x, "step(0, 0)", FULL);
        refused(x, "join(0, 0, 1, 0)", FULL);
        due(x, "at(0, 63)", 64 % 6);
        finds(x, "at(0, 64)", BEYOND);

        about("rows of STEPS (WAYS 0 .. 5), whatever WAYS THE CUBE has");
        x = with(1, 2, "");
        due(x, "step(0, 5)", 1);
        due(x, "step(0, 0)", 2);
        refused(x, "step(0, 6)", BAD);
        refused(x, "step(0, -1)", BAD);
        x.cube(6);
        refused(x, "step(0, 6)", BAD);
        rope(x, 0, "50");

        about("ROPES are missing (at first)");
        x = new CubeSnakes();
        due(x, "many(2)", 0);
        for (int p = 0; p < 12; p++) {
            finds(x, "tear(" + p + ")", NOTHING);
            due(x, "word(" + p + ")", 0);
        }
        due(x, "many(2)", 12);
    }

    private static void waysAndCorners() {
        about("A ROPE is begun at CORNER 0");
        CubeSnakes x = with(2, 2, "", "1", "501");
        for (int p = 0; p < 3; p++) {
            due(x, "corner(" + p + ", 0)", 0);
        }
        x.bar(0, true);
        due(x, "corner(0, 0)", 0);

        about("A ROPE with n STEPS comes to CORNERS c0 = 0, c1, .. cn");
        x = with(6, 2, "053");
        int[] corners = {0, 1, 33, 41};
        for (int i = 0; i < corners.length; i++) {
            due(x, "corner(0, " + i + ")", corners[i]);
        }
        finds(x, "corner(0, 4)", BEYOND);
        x = with(6, 1, wayThroughAll());
        due(x, "corner(0, 63)", 32);
        due(x, "corner(0, 64)", 0);
        finds(x, "corner(0, 65)", BEYOND);
    }

    private static void whatASnakeIs() {
        about("It is a SNAKE, if it has no WAY that THE CUBE has not");
        for (int d = 1; d < 6; d++) {
            CubeSnakes x = with(d + 1, 2, "0" + d);
            due(x, "kind(0)", d == 1 ? 2 : 1);
            x.cube(d);
            due(x, "kind(0)", 0);
            due(x, "fault(0, 0)", 2);
        }

        about("It is a SNAKE, if none of c0 .. cn is BARRED");
        int[] passed = {0, 1, 3, 7};
        for (int c : passed) {
            CubeSnakes x = with(3, 2, "012");
            due(x, "kind(0)", 1);
            x.bar(c, true);
            due(x, "kind(0)", 0);
            x.bar(c, false);
            due(x, "kind(0)", 1);
        }
        CubeSnakes x = with(3, 2, "012");
        bar(x, 2, 4, 5);
        due(x, "kind(0)", 1);
        due(x, "fault(0, 0)", NONE);
    }

    private static void nearest(int k, String snake, String none, int j, int i) {
        CubeSnakes x = with(5, k, snake, none);
        due(x, "fault(0, 0)", NONE);
        due(x, "fault(0, 1)", NONE);
        due(x, "fault(1, 0)", j);
        due(x, "fault(1, 1)", i);
        due(x, "kind(1)", 0);
    }

    private static void whatNearIs() {
        about("of any two, ci and cj, k bits or more are unlike: k 1");
        nearest(1, "010", "01212", 5, 1);
        nearest(1, "0102010", "01020103013", 11, 5);
        about("of any two, ci and cj, k bits or more are unlike: k 2");
        nearest(2, "0120", "010", 3, 0);
        nearest(2, "01230", "01232", 5, 2);
        about("of any two, ci and cj, k bits or more are unlike: k 3");
        nearest(3, "01230", "0120", 4, 0);
        nearest(3, "012304", "01231", 5, 1);
        about("of any two, min(j - i, k) bits or more are unlike: neighbours may be near");
        int[] nearTo3 = {2, 1, 0};
        for (int k = 1; k <= 3; k++) {
            nearest(k, "0", "00", 2, 0);
            nearest(k, "01", "011", 3, k == 1 ? 1 : 0);
            nearest(k, "012", "0122", 4, nearTo3[k - 1]);
        }
    }

    private static void ropeWithoutSteps() {
        about("A ROPE without STEPS is a SNAKE");
        for (int d = 1; d <= 6; d++) {
            for (int k = 1; k <= 3; k++) {
                CubeSnakes x = with(d, k, "", "");
                due(x, "kind(0)", 1);
                due(x, "fault(0, 0)", NONE);
                due(x, "fault(0, 1)", NONE);
                due(x, "open(0)", d);
                due(x, "far(0)", (1 << d) - 1 - d);
                due(x, "alike(0, 1)", 1);
                due(x, "corner(0, 0)", 0);
                finds(x, "least(0, 0)", BEYOND);
                finds(x, "corner(0, 1)", BEYOND);
                finds(x, "at(0, 0)", BEYOND);
                finds(x, "read(0, 0)", UNLIKE);
                finds(x, "turns(0)", UNLIKE);
            }
        }

        about("A ROPE without STEPS is no SNAKE, if CORNER 0 is BARRED");
        CubeSnakes x = with(3, 2, "");
        x.bar(0, true);
        due(x, "kind(0)", 0);
        due(x, "fault(0, 0)", 0);
        due(x, "fault(0, 1)", 0);
        finds(x, "open(0)", UNLIKE);
        finds(x, "far(0)", UNLIKE);
        finds(x, "least(0, 0)", UNLIKE);
        finds(x, "alike(0, 0)", UNLIKE);

        about("A ROPE without STEPS is HEAVY, if all CORNERS one STEP away are BARRED");
        x = with(3, 2, "");
        bar(x, 1, 2);
        due(x, "kind(0)", 1);
        x.bar(4, true);
        due(x, "kind(0)", 2);
        due(x, "open(0)", 0);
    }

    private static void whatARingIs() {
        about("It is a RING, if it has no WAY that THE CUBE has not");
        CubeSnakes x = with(3, 2, "012012", "0101");
        due(x, "kind(0)", 3);
        due(x, "kind(1)", 3);
        x.cube(2);
        due(x, "kind(0)", 0);
        due(x, "kind(1)", 3);
        x.cube(1);
        due(x, "kind(1)", 0);
        finds(x, "turns(1)", UNLIKE);

        about("It is a RING, if n is 2 k and more (4 and more with k 1)");
        x = with(3, 1, "00", "0101", "012012");
        int[][] kinds = {{0, 3, 3}, {0, 3, 3}, {0, 0, 3}};
        for (int k = 1; k <= 3; k++) {
            x.spread(k);
            for (int p = 0; p < 3; p++) {
                due(x, "kind(" + p + ")", kinds[k - 1][p]);
            }
        }

        about("It is a RING, if cn = 0");
        x = with(3, 1, "01201", "0120120", "010");
        due(x, "kind(0)", 1);
        due(x, "kind(1)", 0);
        due(x, "kind(2)", 1);

        about("It is a RING, if none of c0 .. c(n - 1) is BARRED");
        for (int c : new int[] {0, 1, 3, 7, 6, 4}) {
            x = with(3, 2, "012012");
            x.bar(c, true);
            due(x, "kind(0)", 0);
            x.bar(c, false);
            due(x, "kind(0)", 3);
        }
        bar(x, 2, 5);
        due(x, "kind(0)", 3);

        about("of any two of these min(e, k) bits or more are unlike");
        x = with(4, 2, "010212", "01203213");
        due(x, "kind(0)", 0);
        due(x, "kind(1)", 3);
        x.spread(1);
        due(x, "kind(0)", 3);
        x.spread(3);
        due(x, "kind(1)", 0);
        set(x, 1, "01230123");
        due(x, "kind(1)", 3);

        about("e being the lesser one of j - i and n - (j - i)");
        x = with(4, 2, "01023123", "02312301", "31230102");
        for (int p = 0; p < 3; p++) {
            x.spread(2);
            due(x, "kind(" + p + ")", 0);
            x.spread(1);
            due(x, "kind(" + p + ")", 3);
        }

        about("A RING may have 64 STEPS");
        x = with(6, 1, wayThroughAll());
        due(x, "kind(0)", 3);
        due(x, "far(0)", 0);
        due(x, "alike(0, 0)", 1);
        due(x, "least(0, 63)", 5);
        finds(x, "least(0, 64)", BEYOND);
        // All turns keep the set of all corners: 720 orders of the ways, 64 corners to which 0 may come.
        due(x, "turns(0)", 46080);
        for (int i = 0; i < 64; i++) {
            due(x, "read(0, " + (i ^ i / 2) + ")", i);
        }
    }

    private static void wayBack() {
        about("a RING's way back to CORNER 0: cn is CORNER 0 again");
        CubeSnakes x = with(3, 2, "0101", "012012");
        due(x, "corner(0, 4)", 0);
        due(x, "corner(1, 6)", 0);
        finds(x, "corner(1, 7)", BEYOND);
        due(x, "read(0, 0)", 0);
        due(x, "read(1, 0)", 0);

        about("a RING's way back to CORNER 0: it is no SNAKE");
        due(x, "fault(0, 0)", 3);
        due(x, "fault(0, 1)", 0);
        due(x, "fault(1, 0)", 5);
        due(x, "fault(1, 1)", 0);
        finds(x, "open(1)", UNLIKE);
        x.spread(1);
        due(x, "fault(0, 0)", 4);
        due(x, "fault(0, 1)", 0);
        due(x, "fault(1, 0)", 6);
        due(x, "fault(1, 1)", 0);
        x.spread(3);
        due(x, "fault(1, 0)", 4);
        due(x, "fault(1, 1)", 0);
    }

    private static void kinds() {
        about("KINDS: 0 ROPE, 1 SNAKE, 2 HEAVY, 3 RING");
        CubeSnakes x = with(3, 2, "00", "012", "0120", "012012");
        for (int p = 0; p < 4; p++) {
            due(x, "kind(" + p + ")", p);
        }

        about("HEAVY: with no STEP more it is a SNAKE");
        x = with(3, 2, "0120");
        due(x, "open(0)", 0);
        for (int way = 0; way < 6; way++) {
            due(x, "step(0, " + way + ")", 5);
            due(x, "kind(0)", 0);
            due(x, "cut(0, 4)", 4);
        }
        due(x, "kind(0)", 2);
        x.cube(4);
        due(x, "kind(0)", 1);
        due(x, "open(0)", 1);

        about("HEAVY (a SNAKE, too)");
        x = with(3, 2, "0120", "012", "2102");
        due(x, "fault(0, 0)", NONE);
        due(x, "open(0)", 0);
        due(x, "far(0)", 0);
        due(x, "alike(0, 1)", 0);
        due(x, "alike(1, 0)", 0);
        due(x, "alike(0, 2)", 1);
        least(x, 2, "0120");
    }

    // ---- SEEKING

    /** That a seeking that is not cut short makes so many tries. */
    private static void tries(CubeSnakes x, boolean ring, int tries) {
        x.longest(0, ring, 20000);
        due("tries() of " + (ring ? "RINGS" : "SNAKES"), x.tries(), tries);
    }

    private static void triesOfSnakes() {
        about("SEEKING begins with no STEP");
        CubeSnakes x = new CubeSnakes();
        due(x, "count(false, 0)", 1);
        due(x, "asked()", 1);
        due(x, "tries()", 0);
        due(x, "count(true, 0)", 1);
        due(x, "asked()", 0);
        due(x, "tries()", 0);

        about("a STEP is a TRY, if with it the row is a SNAKE");
        tries(with(1, 2), false, 1);
        tries(with(2, 2), false, 2);
        tries(with(2, 1), false, 3);
        tries(with(3, 2), false, 4);
        tries(with(3, 3), false, 3);

        about("it is taken back when all behind it were tried");
        x = with(2, 1);
        x.bar(1, true);
        // 1, 10: way 0 is shut.
        tries(x, false, 2);
        x = with(3, 2);
        x.bar(7, true);
        // 0, 01, 02, 1, 10, 12, 2, 20, 21.
        tries(x, false, 9);

        about("the row has 64 STEPS at most");
        x = with(6, 1);
        due(x, "longest(0, true, 20000)", SPENT);
        due(x, "at(0, -1)", 64);
        due(x, "kind(0)", 3);
        due(x, "longest(0, false, 20000)", SPENT);
        due(x, "at(0, -1)", 63);
        due(x, "kind(0)", 2);
    }

    private static void triesOfRings() {
        about("a STEP is a TRY, if with it the row is a RING (which is not gone on with)");
        // 0, 01, 010, 0101.
        tries(with(2, 1), true, 4);
        tries(with(2, 2), true, 4);

        about("OPEN: none of its CORNERS is BARRED");
        CubeSnakes x = with(2, 2);
        x.bar(3, true);
        // 0, 1.
        tries(x, true, 2);

        about("OPEN: all are unlike");
        for (int k = 1; k <= 3; k++) {
            tries(with(1, k), true, 1);
        }
        // 0, 01, 010; 0101 comes to CORNER 0 by too few STEPS.
        tries(with(2, 3), true, 3);

        about("OPEN: or else i and how many bits of cj are 1 are less than k together");
        // 0, 01, 010, 0101, 0102, 01021, 012, 0120, 01201, 012012; not 01020 (2 is near to 5).
        tries(with(3, 2), true, 10);
        // 0, 01, 010, 0102, 01021, 012, 0120, 01201, 012012; not 010210, 012010, 0121 (1 and 2 bits are 3).
        tries(with(3, 3), true, 9);
        // No row but a RING is near to CORNER 0 by no STEP: these are all ways through the cube.
        tries(with(3, 1), true, 26);
    }

    private static void triesInOrder() {
        about("the least WAY first");
        CubeSnakes x = with(3, 2);
        bar(x, 1);
        due(x, "longest(0, false, 1)", SPENT);
        rope(x, 0, "1");
        due(x, "longest(0, false, 3)", SPENT);
        rope(x, 0, "102");
        x.bar(2, true);
        due(x, "longest(0, false, 1)", SPENT);
        rope(x, 0, "2");

        about("With no CORNER BARRED only a WAY at most one more than the greatest is tried (0 at first)");
        x = with(6, 1);
        int[] met = {1, 1, 1, 2};
        for (int steps = 0; steps < met.length; steps++) {
            due(x, "count(false, " + steps + ")", 1);
            due(x, "asked()", met[steps]);
        }
        // 0, 01, 010, 012.
        due(x, "tries()", 4);
        x = with(2, 1);
        due(x, "count(false, 2)", 1);
        due(x, "asked()", 1);

        about("With a CORNER BARRED each WAY is tried");
        x = with(6, 1);
        x.bar(63, true);
        due(x, "count(false, 1)", 1);
        due(x, "asked()", 6);
        due(x, "count(false, 2)", 1);
        due(x, "asked()", 30);
        due(x, "count(true, 4)", 1);
        due(x, "asked()", 30);
        x.bar(1, true);
        due(x, "count(false, 1)", 1);
        due(x, "asked()", 5);
        x.bar(1, false);
        x.bar(63, false);
        due(x, "count(false, 1)", 1);
        due(x, "asked()", 1);
    }

    private static void theLongest() {
        about("THE LONGEST: the row with most STEPS that was met");
        CubeSnakes x = with(4, 2);
        due(x, "longest(0, false, 20000)", 7);
        rope(x, 0, "0120310");
        // Behind the first ring (0101) many shorter and longer rows are met.
        due(x, "longest(0, true, 10)", SPENT);
        rope(x, 0, "0101");

        about("THE LONGEST: the first one of these");
        due(x, "longest(0, true, 20000)", 8);
        rope(x, 0, "01203123");
        x.cube(3);
        bar(x, 7);
        // 01 and five others have two steps.
        due(x, "longest(0, false, 20000)", 2);
        rope(x, 0, "01");
    }

    // ---- TURNS, ALIKE, THE LEAST FORM

    private static void turns() {
        about("TURNS: WAYS may change places");
        CubeSnakes x = with(3, 2, "012012", "0101", "0202", "1212");
        // Both corners off the ring are a long way: 6 orders of the ways, 2 corners to which one of them may come.
        due(x, "turns(0)", 12);
        about("TURNS: all CORNERS turn the same bits");
        // A face: its two ways change places, and each of its corners may come to CORNER 0.
        due(x, "turns(1)", 8);
        due(x, "turns(2)", 8);
        due(x, "turns(3)", 8);
    }

    private static void alike() {
        about("Two ROPES are ALIKE if a TURN makes one of the other");
        CubeSnakes x = with(6, 2, "0120", "5345", "0123", "");
        due(x, "alike(0, 1)", 1);
        due(x, "alike(0, 0)", 1);
        due(x, "alike(0, 2)", 0);
        due(x, "alike(3, 3)", 1);

        about("ALIKE, read forward or backward");
        x = with(5, 2, "01203", "30210", "34120", "01230");
        due(x, "alike(0, 1)", 1);
        due(x, "alike(1, 0)", 1);
        due(x, "alike(0, 2)", 0);
        due(x, "alike(0, 3)", 0);

        about("ALIKE (RINGS: begun at any CORNER, too)");
        x = with(4, 1, "01203123", "12031230", "30120312", "01230123");
        due(x, "alike(0, 1)", 1);
        due(x, "alike(0, 2)", 1);
        due(x, "alike(0, 3)", 0);
        // By no turn are these one another's forward: only backward, begun elsewhere.
        x = with(4, 1, "0102013023", "0102031032", "0102013203");
        due(x, "alike(0, 1)", 1);
        due(x, "alike(1, 0)", 1);
        due(x, "alike(0, 2)", 0);

        about("ALIKE: SNAKES are begun at their ends alone");
        x = with(3, 1, "01021", "10210");
        due(x, "kind(0)", 1);
        due(x, "kind(1)", 1);
        due(x, "alike(0, 1)", 0);

        about("ALIKE: ROPES with another number of STEPS are not");
        x = with(4, 2, "", "0", "01", "0101", "012012");
        due(x, "alike(0, 1)", 0);
        due(x, "alike(2, 1)", 0);
        due(x, "alike(3, 4)", 0);
        due(x, "alike(4, 3)", 0);
    }

    private static void leastForm() {
        about("THE LEAST FORM: WAYS get numbers 0, 1, .. as they are first met");
        CubeSnakes x = with(6, 2, "5", "543210", "3534");
        least(x, 0, "0");
        least(x, 1, "012345");
        x.spread(1);
        least(x, 2, "0102");

        about("THE LEAST FORM: of both readings the row that is first");
        x = with(5, 2, "01203", "30210", "34120");
        least(x, 0, "01203");
        least(x, 1, "01203");
        least(x, 2, "01234");

        about("THE LEAST FORM: which has the lesser WAY at the first place at which they differ");
        // Forward named 0123023, backward 0120132: the first place at which they differ decides, not those behind.
        x = with(5, 1, "0123023", "3203210");
        least(x, 0, "0120132");
        least(x, 1, "0120132");

        about("THE LEAST FORM (RINGS: of all beginnings and both)");
        x = with(4, 1, "0102031032", "0102013023");
        least(x, 0, "0102013023");
        least(x, 1, "0102013023");
        x.spread(2);
        for (String ring : new String[] {"01203123", "12031230", "20312301", "03123012", "31230120", "32130210", "13021032"}) {
            set(x, 5, ring);
            least(x, 5, "01203123");
        }
    }
}
