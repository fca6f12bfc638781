/** Promises 27 to 30 ("what is told"): a test of its own for each sentence that names an edge. */
public final class ToldTest extends Checks {
    public static void main(String[] args) {
        many();
        findings();
        digest();
        manyCalls();
        end();
    }

    private static void many() {
        about("27: 0 D, 1 THE SPREAD, 2 ROPES that are there, 3 BARRED CORNERS");
        CubeSnakes x = with(5, 3, "", "-", "1");
        bar(x, 0, 31);
        due(x, "many(0)", 5);
        due(x, "many(1)", 3);
        due(x, "many(2)", 2);
        due(x, "many(3)", 2);
        for (int p = 0; p < 12; p++) {
            x.word(p);
        }
        due(x, "many(2)", 12);
        x.cube(6);
        for (int c = 0; c < 64; c++) {
            x.bar(c, true);
        }
        due(x, "many(3)", 64);
        about("27: BAD");
        allBad(x, "many(N)", -1, 4, LEAST, MOST);
    }

    private static void findings() {
        about("28: The latest FINDING (0 before any)");
        CubeSnakes x = with(3, 2, "0");
        due(x, "finding()", 0);
        refused(x, "step(0, 6)", BAD);
        refused(x, "classOf(0, 0)", NONE);
        due(x, "fault(0, 0)", NONE);
        due(x, "finding()", 0);
        finds(x, "turns(0)", UNLIKE);
        finds(x, "cut(0, -1)", SIZE);
        finds(x, "at(0, 1)", BEYOND);
        finds(x, "kind(1)", NOTHING);
        due(x, "kind(0)", 1);
        due(x, "finding()", NOTHING);

        about("29: How often a FINDING (1 .. 4) was answered");
        x = with(3, 2, "0");
        for (int f = 1; f <= 4; f++) {
            due(x, "findings(" + f + ")", 0);
        }
        String[] calls = {"kind(1)", "at(0, 1)", "turns(0)", "cut(0, -1)"};
        for (int f = 1; f <= 4; f++) {
            for (int times = 1; times <= f + 1; times++) {
                finds(x, calls[f - 1], f);
                due(x, "findings(" + f + ")", times);
            }
        }
        for (int f = 1; f <= 4; f++) {
            due(x, "findings(" + f + ")", f + 1);
        }
        about("29: BAD");
        allBad(x, "findings(N)", 0, 5, -1, LEAST, MOST);
    }

    private static void digest() {
        about("30: h = 17; then h = 31 h + v for each v: D, THE SPREAD, barred()");
        CubeSnakes x = new CubeSnakes();
        due(x, "digest()", digestOf(3, 2, 0));
        x.cube(6);
        due(x, "digest()", digestOf(6, 2, 0));
        x.spread(1);
        due(x, "digest()", digestOf(6, 1, 0));
        bar(x, 63, 32, 31, 0);
        due(x, "digest()", digestOf(6, 1, 1L << 63 | 1L << 32 | 1L << 31 | 1));
        about("30: of each ROPE how many STEPS (-1: missing), and these");
        set(x, 0, "");
        set(x, 1, "0");
        set(x, 3, "543210");
        set(x, 11, "0".repeat(64));
        String[] ropes = {"", "0", "-", "543210", "-", "-", "-", "-", "-", "-", "-", "0".repeat(64)};
        due(x, "digest()", digestOf(6, 1, 1L << 63 | 1L << 32 | 1L << 31 | 1, ropes));
        about("30: what is no longer there counts no more");
        due(x, "cut(3, 2)", 2);
        ropes[3] = "54";
        due(x, "tear(11)", 1);
        ropes[11] = "-";
        x.cube(6);
        due(x, "digest()", digestOf(6, 1, 0, ropes));
    }

    private static void manyCalls() {
        about("An object is used for at most 512 calls");
        CubeSnakes x = with(6, 1, wayThroughAll());
        for (int round = 0; round < 60; round++) {
            due(x, "classes(false, 20)", SPENT);
            due(x, "count(true, 30)", SPENT);
            due(x, "longest(1, true, 20000)", SPENT);
            due(x, "turns(0)", 46080);
            due(x, "alike(0, 0)", 1);
            due(x, "tear(2)", FINDING);
            due(x, "findings(1)", round + 1);
        }
        due(x, "at(1, -1)", 64);
        due(x, "classes(false, 7)", 1);
        due(x, "asked()", 82);
    }
}
