/** Promises 12 to 20 ("what words are"): a test of its own for each sentence that names an edge. */
public final class KindsTest extends Checks {
    public static void main(String[] args) {
        kind();
        corner();
        fault();
        open();
        read();
        far();
        alike();
        least();
        turns();
        end();
    }

    private static void kind() {
        about("12: The KIND of a ROPE");
        CubeSnakes x = with(4, 2, "", "0120", "01203", "010", "0101", "4", "0120310");
        int[] kinds = {1, 1, 1, 0, 3, 0, 2};
        for (int p = 0; p < kinds.length; p++) {
            due(x, "kind(" + p + ")", kinds[p]);
        }
        about("12: (HEAVY ahead of SNAKE)");
        x.cube(3);
        due(x, "kind(1)", 2);
        x.bar(1, true);
        due(x, "kind(1)", 0);
        due(x, "kind(0)", 1);
        bar(x, 2, 4);
        due(x, "kind(0)", 2);
        about("12: BAD");
        allBad(x, "kind(N)", -1, 12, LEAST, MOST);
        about("12: NOTHING");
        finds(x, "kind(7)", NOTHING);
    }

    private static void corner() {
        about("13: The CORNER to which a ROPE comes behind i STEPS");
        CubeSnakes x = with(6, 2, "500", "");
        due(x, "corner(0, 0)", 0);
        due(x, "corner(0, 1)", 32);
        due(x, "corner(0, 2)", 33);
        due(x, "corner(0, 3)", 32);
        due(x, "corner(1, 0)", 0);
        x.bar(33, true);
        due(x, "corner(0, 2)", 33);
        about("13: BAD");
        allBad(x, "corner(N, 0)", -1, 12, LEAST, MOST);
        about("13: NOTHING");
        finds(x, "corner(2, 0)", NOTHING);
        about("13: BEYOND");
        finds(x, "corner(0, 4)", BEYOND);
        finds(x, "corner(1, 1)", BEYOND);
        finds(x, "corner(0, -1)", BEYOND);
        finds(x, "corner(0, " + LEAST + ")", BEYOND);
        finds(x, "corner(0, " + MOST + ")", BEYOND);
        about("13: BEYOND: also a WAY that THE CUBE has not within these");
        x = with(3, 2, "01320", "3", "02413");
        due(x, "corner(0, 2)", 3);
        finds(x, "corner(0, 3)", BEYOND);
        finds(x, "corner(0, 4)", BEYOND);
        finds(x, "corner(0, 5)", BEYOND);
        due(x, "corner(1, 0)", 0);
        finds(x, "corner(1, 1)", BEYOND);
        x.cube(4);
        due(x, "corner(0, 5)", 14);
        due(x, "corner(1, 1)", 8);
        due(x, "corner(2, 2)", 5);
        finds(x, "corner(2, 3)", BEYOND);
        finds(x, "corner(2, 5)", BEYOND);
    }

    private static void faulty(CubeSnakes x, int p, int j, int i) {
        due(x, "fault(" + p + ", 0)", j);
        due(x, "fault(" + p + ", 1)", i);
    }

    private static void fault() {
        about("14: the least j for which STEP j (from 1) goes a WAY that there is not (i is j then)");
        CubeSnakes x = with(3, 2, "3", "0123", "012013", "010333", "33");
        faulty(x, 0, 1, 1);
        faulty(x, 1, 4, 4);
        faulty(x, 2, 5, 0);
        faulty(x, 3, 3, 0);
        faulty(x, 4, 1, 1);
        about("14: cj is BARRED (likewise)");
        x = with(3, 2, "0120", "", "01201", "0123");
        x.bar(6, true);
        faulty(x, 0, 4, 4);
        faulty(x, 2, 4, 4);
        faulty(x, 3, 4, 4);
        x.bar(7, true);
        faulty(x, 0, 3, 3);
        x.bar(0, true);
        faulty(x, 0, 0, 0);
        faulty(x, 1, 0, 0);
        about("14: cj is BARRED ahead of too near");
        x = with(3, 2, "01201", "00");
        x.bar(4, true);
        faulty(x, 0, 5, 5);
        about("14: or some ci (i < j, the least) is too near");
        x = with(4, 2, "00", "010", "01231", "01232", "012012", "012313");
        faulty(x, 0, 2, 0);
        faulty(x, 1, 3, 0);
        faulty(x, 2, NONE, NONE);
        faulty(x, 3, 5, 2);
        faulty(x, 4, 5, 0);
        // c6 = 5 is one bit from c1 and from c3.
        faulty(x, 5, 6, 1);
        x.spread(1);
        faulty(x, 4, 6, 0);
        faulty(x, 5, NONE, NONE);
        x.spread(3);
        faulty(x, 2, 5, 1);
        // c4 is 2 bits from c0 and 3 from c1.
        faulty(x, 4, 4, 0);
        about("14: the last STEP of a ROPE with 64");
        x = with(6, 1, wayThroughAll());
        faulty(x, 0, 64, 0);
        about("14: NONE: it is a SNAKE");
        x = with(3, 2, "", "012", "0120");
        for (int p = 0; p < 3; p++) {
            faulty(x, p, NONE, NONE);
        }
        about("14: BAD: also what");
        allBad(x, "fault(N, 0)", -1, 12, LEAST, MOST);
        allBad(x, "fault(0, N)", -1, 2, LEAST, MOST);
        about("14: NOTHING");
        finds(x, "fault(3, 0)", NOTHING);
        finds(x, "fault(3, 1)", NOTHING);
    }

    private static void open() {
        about("15: How many STEPS may be put behind a SNAKE so that it is one");
        CubeSnakes x = with(3, 2, "", "0", "01", "012", "0120");
        int[] open = {3, 2, 1, 1, 0};
        for (int p = 0; p < open.length; p++) {
            due(x, "open(" + p + ")", open[p]);
        }
        x.cube(6);
        due(x, "open(0)", 6);
        due(x, "open(4)", 3);
        x.cube(1);
        due(x, "open(0)", 1);
        due(x, "open(1)", 0);
        x.cube(3);
        x.spread(1);
        due(x, "open(2)", 2);
        x.spread(3);
        due(x, "open(3)", 0);
        bar(x, 2, 7);
        due(x, "open(0)", 2);
        due(x, "open(2)", 0);
        about("15: (HEAVY: 0)");
        x = with(6, 1, wayThroughAll().substring(0, 63));
        due(x, "kind(0)", 2);
        due(x, "open(0)", 0);
        about("15: BAD");
        allBad(x, "open(N)", -1, 12, LEAST, MOST);
        about("15: NOTHING");
        finds(x, "open(3)", NOTHING);
        about("15: UNLIKE: it is no SNAKE");
        x = with(3, 2, "00", "0101", "3", "010");
        for (int p = 0; p < 4; p++) {
            finds(x, "open(" + p + ")", UNLIKE);
        }
        x.bar(0, true);
        set(x, 4, "");
        finds(x, "open(4)", UNLIKE);
    }

    private static void reads(CubeSnakes x, int... places) {
        for (int c = 0; c < places.length; c++) {
            due(x, "read(0, " + c + ")", places[c]);
        }
    }

    private static void read() {
        about("16: The place of a CORNER in a RING (0 for CORNER 0)");
        CubeSnakes x = with(2, 2, "1010");
        reads(x, 0, 3, 1, 2);
        about("16: else - 10 less how many CORNERS of it are one STEP from it");
        x.cube(4);
        reads(x, 0, 3, 1, 2, -11, -11, -11, -11, -11, -11, -11, -11, -10, -10, -10, -10);
        x = with(3, 1, "010212");
        reads(x, 0, 1, 3, 2, 5, -12, 4, -12);
        x = with(3, 2, "012012");
        reads(x, 0, 1, -13, 2, 5, -13, 4, 3);
        about("16: a BARRED CORNER is one, too");
        bar(x, 2, 5);
        reads(x, 0, 1, -13, 2, 5, -13, 4, 3);
        about("16: BAD: the CORNER, too");
        allBad(x, "read(N, 0)", -1, 12, LEAST, MOST);
        allBad(x, "read(0, N)", -1, 8, 64, LEAST, MOST);
        about("16: NOTHING");
        finds(x, "read(3, 0)", NOTHING);
        about("16: UNLIKE: no RING");
        x = with(3, 2, "012012", "", "012", "0120", "010");
        for (int p = 1; p < 5; p++) {
            finds(x, "read(" + p + ", 0)", UNLIKE);
        }
        x.bar(1, true);
        finds(x, "read(0, 0)", UNLIKE);
    }

    private static void far() {
        about("17: How many CORNERS neither are in a RING (SNAKE) nor one STEP from one that is");
        CubeSnakes x = with(1, 2, "", "0101", "012012", "0");
        int[] far = {0, 1, 4, 11, 26, 57};
        for (int d = 1; d <= 6; d++) {
            x.cube(d);
            due(x, "far(0)", far[d - 1]);
        }
        // A face has as many beside it for each way that it does not go by: 64 - 4 - 4 * 4.
        due(x, "far(1)", 44);
        x.cube(3);
        due(x, "far(1)", 0);
        due(x, "far(2)", 0);
        due(x, "far(3)", 2);
        x.cube(4);
        // Corners 10 and 13 are two steps from the ring's side of the cube.
        due(x, "far(2)", 2);
        about("17: BARRED CORNERS are CORNERS, too");
        bar(x, 10, 2);
        due(x, "far(2)", 2);
        about("17: BAD");
        allBad(x, "far(N)", -1, 12, LEAST, MOST);
        about("17: NOTHING");
        finds(x, "far(4)", NOTHING);
        about("17: UNLIKE: it is neither");
        set(x, 4, "010");
        finds(x, "far(4)", UNLIKE);
        set(x, 4, "4");
        finds(x, "far(4)", UNLIKE);
        x.bar(0, true);
        for (int p = 0; p < 4; p++) {
            finds(x, "far(" + p + ")", UNLIKE);
        }
    }

    private static void alike() {
        about("18: Whether two ROPES are ALIKE: 1, 0");
        CubeSnakes x = with(4, 2, "012", "310", "0123", "012012", "312312", "0101", "", "010");
        due(x, "alike(0, 1)", 1);
        due(x, "alike(1, 0)", 1);
        due(x, "alike(0, 2)", 0);
        due(x, "alike(3, 4)", 1);
        due(x, "alike(4, 5)", 0);
        due(x, "alike(6, 6)", 1);
        due(x, "alike(6, 0)", 0);
        about("18: BAD");
        allBad(x, "alike(N, 0)", -1, 12, LEAST, MOST);
        allBad(x, "alike(0, N)", -1, 12, LEAST, MOST);
        about("18: NOTHING: either");
        finds(x, "alike(0, 8)", NOTHING);
        finds(x, "alike(8, 0)", NOTHING);
        finds(x, "alike(8, 8)", NOTHING);
        finds(x, "alike(7, 8)", NOTHING);
        finds(x, "alike(8, 7)", NOTHING);
        about("18: UNLIKE: not both RINGS or both SNAKES");
        finds(x, "alike(0, 3)", UNLIKE);
        finds(x, "alike(3, 0)", UNLIKE);
        finds(x, "alike(7, 7)", UNLIKE);
        finds(x, "alike(7, 0)", UNLIKE);
        finds(x, "alike(0, 7)", UNLIKE);
        finds(x, "alike(3, 7)", UNLIKE);
        finds(x, "alike(7, 3)", UNLIKE);
    }

    private static void least() {
        about("19: STEP i of THE LEAST FORM of a SNAKE, RING");
        CubeSnakes x = with(6, 2, "52", "-", "-", "5", "");
        due(x, "least(0, 0)", 0);
        due(x, "least(0, 1)", 1);
        due(x, "least(3, 0)", 0);
        set(x, 1, "31203123");
        due(x, "kind(1)", 0);
        set(x, 1, "31230120");
        least(x, 1, "01203123");
        about("19: BAD");
        allBad(x, "least(N, 0)", -1, 12, LEAST, MOST);
        about("19: NOTHING");
        finds(x, "least(5, 0)", NOTHING);
        about("19: UNLIKE");
        set(x, 5, "00");
        finds(x, "least(5, 0)", UNLIKE);
        finds(x, "least(5, 2)", UNLIKE);
        about("19: BEYOND");
        finds(x, "least(0, 2)", BEYOND);
        finds(x, "least(1, 8)", BEYOND);
        finds(x, "least(4, 0)", BEYOND);
        finds(x, "least(0, -1)", BEYOND);
        finds(x, "least(0, " + LEAST + ")", BEYOND);
        finds(x, "least(0, " + MOST + ")", BEYOND);
    }

    private static void turns() {
        about("20: By how many TURNS of THE CUBE a RING becomes itself (as a set of CORNERS)");
        CubeSnakes x = with(2, 2, "0101", "012012", "1010", "012", "");
        int[] faces = {8, 8, 16, 48, 192};
        for (int d = 2; d <= 6; d++) {
            x.cube(d);
            due(x, "turns(0)", faces[d - 2]);
            due(x, "turns(2)", faces[d - 2]);
        }
        x.cube(4);
        due(x, "turns(1)", 12);
        about("20: CORNER 0 staying or not");
        // A face of the cube of 2 ways is all of it: only 2 of the 8 leave CORNER 0 where it is.
        x.cube(2);
        due(x, "turns(0)", 8);
        x.cube(3);
        due(x, "turns(1)", 12);
        about("20: BAD");
        allBad(x, "turns(N)", -1, 12, LEAST, MOST);
        about("20: NOTHING");
        finds(x, "turns(5)", NOTHING);
        about("20: UNLIKE: no RING");
        finds(x, "turns(3)", UNLIKE);
        finds(x, "turns(4)", UNLIKE);
        x.bar(4, true);
        finds(x, "turns(1)", UNLIKE);
        due(x, "turns(0)", 8);
    }
}
