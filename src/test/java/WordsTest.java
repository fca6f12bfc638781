/** Promises 1 to 11 ("the cube, words"): a test of its own for each sentence that names an edge. */
public final class WordsTest extends Checks {
    public static void main(String[] args) {
        newObject();
        cube();
        spread();
        barAndBarred();
        word();
        step();
        at();
        cut();
        tear();
        join();
        joinFull();
        end();
    }

    private static void newObject() {
        about("1: A CUBE of 3 WAYS, THE SPREAD 2; no ROPES");
        CubeSnakes x = new CubeSnakes();
        due(x, "many(0)", 3);
        due(x, "many(1)", 2);
        due(x, "many(2)", 0);
        due(x, "many(3)", 0);
        due(x, "digest()", digestOf(3, 2, 0));
        for (int p = 0; p < 12; p++) {
            finds(x, "at(" + p + ", -1)", NOTHING);
        }
        about("1: one object knows nothing of another");
        CubeSnakes y = with(5, 1, "012");
        bar(y, 3);
        due(x, "digest()", digestOf(3, 2, 0));
    }

    private static void cube() {
        about("2: THE CUBE has d WAYS: d");
        CubeSnakes x = with(3, 2, "01203", "", "-", "5");
        for (int d : new int[] {1, 2, 3, 4, 5, 6, 3}) {
            due(x, "cube(" + d + ")", d);
            due(x, "many(0)", d);
            due(x, "digest()", digestOf(d, 2, 0, "01203", "", "-", "5"));
        }
        about("2: no CORNER is BARRED");
        bar(x, 0, 7);
        due(x, "cube(3)", 3);
        due(x, "barred()", 0);
        x.cube(6);
        bar(x, 63, 8);
        due(x, "cube(3)", 3);
        due(x, "many(3)", 0);
        due(x, "cube(6)", 6);
        due(x, "barred()", 0);
        about("2: BAD: d below 1, above 6");
        x.cube(2);
        x.bar(3, true);
        allBad(x, "cube(N)", 0, 7, -1, LEAST, MOST);
        due(x, "barred()", 8);
    }

    private static void spread() {
        about("3: THE SPREAD is k: 1");
        CubeSnakes x = with(3, 2, "0120");
        x.bar(5, true);
        for (int k : new int[] {1, 2, 3, 3, 2}) {
            due(x, "spread(" + k + ")", 1);
            due(x, "digest()", digestOf(3, k, 32, "0120"));
        }
        about("3: BAD: k below 1, above 3");
        allBad(x, "spread(N)", 0, 4, -1, LEAST, MOST);
    }

    private static void barAndBarred() {
        about("4: A CORNER is BARRED, or not: 1 if it was, else 0");
        CubeSnakes x = with(3, 2);
        for (int c : new int[] {0, 7}) {
            due(x, "bar(" + c + ", false)", 0);
            due(x, "bar(" + c + ", true)", 0);
            due(x, "bar(" + c + ", true)", 1);
            due(x, "barred()", 1L << c);
            due(x, "bar(" + c + ", false)", 1);
            due(x, "bar(" + c + ", false)", 0);
            due(x, "barred()", 0);
        }
        about("4: BAD: no CORNER of THE CUBE");
        x.bar(7, true);
        for (String is : new String[] {"true", "false"}) {
            allBad(x, "bar(N, " + is + ")", -1, 8, 63, 64, LEAST, MOST);
        }
        x.cube(6);
        allBad(x, "bar(N, true)", -1, 64);

        about("5: All BARRED CORNERS (bit c for CORNER c)");
        long all = 0;
        for (int c : new int[] {63, 0, 31, 32, 62, 33, 1}) {
            due(x, "bar(" + c + ", true)", 0);
            all |= 1L << c;
            due(x, "barred()", all);
        }
        for (int c = 0; c < 64; c++) {
            x.bar(c, true);
        }
        due(x, "barred()", -1);
        due(x, "many(3)", 64);
        due(x, "bar(63, false)", 1);
        due(x, "barred()", Long.MAX_VALUE);
    }

    private static void word() {
        about("6: A ROPE is there without STEPS: 1 if it was there, else 0");
        CubeSnakes x = with(3, 2);
        for (int p = 0; p < 12; p++) {
            due(x, "word(" + p + ")", 0);
            due(x, "at(" + p + ", -1)", 0);
            due(x, "step(" + p + ", 1)", 1);
            due(x, "word(" + p + ")", 1);
            due(x, "at(" + p + ", -1)", 0);
            due(x, "many(2)", p + 1);
        }
        due(x, "tear(3)", 1);
        due(x, "word(3)", 0);
        due(x, "word(3)", 1);
        about("6: BAD");
        allBad(x, "word(N)", -1, 12, LEAST, MOST);
    }

    private static void step() {
        about("7: A STEP comes behind a ROPE: how many it has");
        CubeSnakes x = with(3, 2, "", "5");
        due(x, "step(0, 2)", 1);
        due(x, "step(0, 2)", 2);
        due(x, "step(0, 0)", 3);
        due(x, "step(1, 4)", 2);
        rope(x, 0, "220");
        rope(x, 1, "54");
        about("7: BAD: the ROPE, the WAY (0 .. 5)");
        allBad(x, "step(N, 0)", -1, 12, LEAST, MOST);
        allBad(x, "step(0, N)", -1, 6, LEAST, MOST);
        due(x, "step(0, 5)", 4);
        about("7: FULL: 64");
        set(x, 2, "01".repeat(32).substring(1));
        due(x, "step(2, 3)", 64);
        refused(x, "step(2, 3)", FULL);
        due(x, "cut(2, 63)", 63);
        due(x, "step(2, 4)", 64);
        refused(x, "step(2, 4)", FULL);
        due(x, "at(2, 63)", 4);
        about("7: NOTHING");
        finds(x, "step(3, 0)", NOTHING);
        due(x, "tear(2)", 1);
        finds(x, "step(2, 0)", NOTHING);
    }

    private static void at() {
        about("8: The WAY of STEP i of a ROPE");
        CubeSnakes x = with(1, 2, "5", "", "504132");
        rope(x, 2, "504132");
        due(x, "at(0, 0)", 5);
        about("8: - 1: how many it has");
        due(x, "at(0, -1)", 1);
        due(x, "at(1, -1)", 0);
        due(x, "at(2, -1)", 6);
        about("8: BAD");
        allBad(x, "at(N, 0)", -1, 12, LEAST, MOST);
        allBad(x, "at(N, -1)", -1, 12);
        about("8: NOTHING");
        finds(x, "at(3, 0)", NOTHING);
        finds(x, "at(3, -1)", NOTHING);
        about("8: BEYOND");
        finds(x, "at(0, 1)", BEYOND);
        finds(x, "at(1, 0)", BEYOND);
        finds(x, "at(2, 6)", BEYOND);
        finds(x, "at(2, -2)", BEYOND);
        finds(x, "at(2, " + LEAST + ")", BEYOND);
        finds(x, "at(2, " + MOST + ")", BEYOND);
    }

    private static void cut() {
        about("9: A ROPE has n STEPS, those that it had first: n");
        CubeSnakes x = with(3, 2, "504132", "");
        due(x, "cut(0, 6)", 6);
        rope(x, 0, "504132");
        due(x, "cut(0, 5)", 5);
        rope(x, 0, "50413");
        due(x, "cut(0, 1)", 1);
        rope(x, 0, "5");
        due(x, "step(0, 2)", 2);
        rope(x, 0, "52");
        due(x, "cut(0, 0)", 0);
        due(x, "cut(1, 0)", 0);
        rope(x, 0, "");
        due(x, "many(2)", 2);
        about("9: BAD");
        allBad(x, "cut(N, 0)", -1, 12, LEAST, MOST);
        about("9: SIZE: n below 0");
        finds(x, "cut(0, -1)", SIZE);
        finds(x, "cut(0, " + LEAST + ")", SIZE);
        about("9: NOTHING");
        finds(x, "cut(2, 0)", NOTHING);
        finds(x, "cut(2, 1)", NOTHING);
        about("9: BEYOND: it has fewer");
        finds(x, "cut(0, 1)", BEYOND);
        set(x, 0, "012");
        finds(x, "cut(0, 4)", BEYOND);
        finds(x, "cut(0, 65)", BEYOND);
        finds(x, "cut(0, " + MOST + ")", BEYOND);
        about("9: SIZE ahead of NOTHING");
        finds(x, "cut(2, -1)", SIZE);
    }

    private static void tear() {
        about("10: A ROPE is missing: 1");
        CubeSnakes x = with(3, 2, "012", "");
        due(x, "tear(0)", 1);
        due(x, "many(2)", 1);
        due(x, "digest()", digestOf(3, 2, 0, "-", ""));
        due(x, "tear(1)", 1);
        due(x, "digest()", digestOf(3, 2, 0));
        due(x, "word(0)", 0);
        due(x, "at(0, -1)", 0);
        about("10: BAD");
        allBad(x, "tear(N)", -1, 12, LEAST, MOST);
        about("10: NOTHING: it was");
        due(x, "tear(0)", 1);
        finds(x, "tear(0)", NOTHING);
        finds(x, "tear(11)", NOTHING);
    }

    private static void join() {
        about("11: n STEPS of a ROPE, from i on, come behind another one's: how many that has");
        CubeSnakes x = with(3, 2, "0123", "54", "");
        due(x, "join(0, 0, 4, 1)", 6);
        rope(x, 1, "540123");
        due(x, "join(0, 3, 1, 1)", 7);
        rope(x, 1, "5401233");
        due(x, "join(0, 4, 0, 1)", 7);
        due(x, "join(0, 0, 0, 1)", 7);
        due(x, "join(2, 0, 0, 2)", 0);
        due(x, "join(1, 1, 2, 2)", 2);
        rope(x, 2, "40");
        rope(x, 0, "0123");
        about("11: (perhaps itself)");
        due(x, "join(0, 1, 3, 0)", 7);
        rope(x, 0, "0123123");
        due(x, "join(0, 0, 7, 0)", 14);
        rope(x, 0, "01231230123123");
        due(x, "join(0, 14, 0, 0)", 14);
        about("11: BAD: ROPES");
        allBad(x, "join(N, 0, 0, 0)", -1, 12, LEAST, MOST);
        allBad(x, "join(0, 0, 0, N)", -1, 12, LEAST, MOST);
        about("11: NOTHING: either");
        finds(x, "join(5, 0, 0, 0)", NOTHING);
        finds(x, "join(0, 0, 0, 5)", NOTHING);
        finds(x, "join(5, 0, 0, 5)", NOTHING);
        about("11: BEYOND: not so many there");
        set(x, 0, "0123");
        finds(x, "join(0, 0, 5, 1)", BEYOND);
        finds(x, "join(0, 4, 1, 1)", BEYOND);
        finds(x, "join(0, 5, 0, 1)", BEYOND);
        finds(x, "join(0, 3, " + MOST + ", 1)", BEYOND);
        finds(x, "join(0, " + MOST + ", " + MOST + ", 1)", BEYOND);
        finds(x, "join(0, " + MOST + ", 1, 1)", BEYOND);
        about("11: BEYOND: (i, n below 0, too)");
        finds(x, "join(0, -1, 0, 1)", BEYOND);
        finds(x, "join(0, -1, 2, 1)", BEYOND);
        finds(x, "join(0, 0, -1, 1)", BEYOND);
        finds(x, "join(0, 4, -1, 1)", BEYOND);
        finds(x, "join(0, " + LEAST + ", " + LEAST + ", 1)", BEYOND);
        finds(x, "join(0, " + LEAST + ", 0, 1)", BEYOND);
        finds(x, "join(0, 1, " + LEAST + ", 1)", BEYOND);
        finds(x, "join(0, " + LEAST + ", " + MOST + ", 1)", BEYOND);
    }

    private static void joinFull() {
        about("11: FULL: 64 STEPS may be reached, no more");
        CubeSnakes x = with(3, 2, "012345", "0".repeat(60), "1".repeat(33), "2".repeat(64));
        refused(x, "join(0, 0, 5, 1)", FULL);
        due(x, "join(0, 2, 4, 1)", 64);
        refused(x, "join(0, 0, 1, 1)", FULL);
        due(x, "join(0, 0, 0, 1)", 64);
        refused(x, "join(2, 0, 32, 2)", FULL);
        due(x, "join(2, 0, 31, 2)", 64);
        refused(x, "join(3, 0, 64, 3)", FULL);
        rope(x, 3, "2".repeat(64));
        set(x, 4, "");
        due(x, "join(3, 0, 64, 4)", 64);
        about("11: FULL (behind NOTHING, BEYOND)");
        finds(x, "join(5, 0, 1, 1)", NOTHING);
        finds(x, "join(0, 0, 7, 1)", BEYOND);
        finds(x, "join(0, 6, 1, 1)", BEYOND);
        finds(x, "join(0, -1, 65, 1)", BEYOND);
        finds(x, "join(3, 0, 65, 3)", BEYOND);
        about("11: BAD ahead of NOTHING, BEYOND, FULL");
        allBad(x, "join(N, 0, 99, 1)", -1, 12);
        allBad(x, "join(5, -1, 99, N)", -1, 12);
    }
}
