/** Promises 21 to 26 ("seeking"): a test of its own for each sentence that names an edge. */
public final class SeekingTest extends Checks {
    public static void main(String[] args) {
        longest();
        longestByTries();
        count();
        countByTries();
        classes();
        classOf();
        triesAndAsked();
        end();
    }

    private static void longest() {
        about("21: ROPE p (there then) becomes THE LONGEST SNAKE (ring: RING): how many STEPS it has");
        CubeSnakes x = with(3, 2, "5555555");
        due(x, "longest(0, false, 20000)", 4);
        rope(x, 0, "0120");
        due(x, "longest(11, true, 20000)", 6);
        rope(x, 11, "012012");
        due(x, "many(2)", 2);
        due(x, "longest(0, true, 20000)", 6);
        rope(x, 0, "012012");
        about("21: (0: no RING was met, the ROPE is empty)");
        x.cube(1);
        due(x, "longest(0, true, 20000)", 0);
        rope(x, 0, "");
        due(x, "longest(1, true, 20000)", 0);
        rope(x, 1, "");
        due(x, "many(2)", 3);
        about("21: the SNAKE without STEPS, if no STEP is a TRY");
        x.bar(1, true);
        due(x, "longest(11, false, 20000)", 0);
        rope(x, 11, "");
        due(x, "tries()", 0);
        due(x, "longest(11, false, 1)", 0);
        about("21: BAD");
        x = with(3, 2, "12");
        allBad(x, "longest(N, false, 5)", -1, 12, LEAST, MOST);
        allBad(x, "longest(0, false, N)", -1, 0, 20001, LEAST, MOST);
        allBad(x, "longest(0, true, N)", -1, 0, 20001, LEAST, MOST);
        about("21: STATE: CORNER 0 is BARRED");
        x.bar(0, true);
        refused(x, "longest(0, false, 5)", STATE);
        refused(x, "longest(1, true, 20000)", STATE);
        x.bar(0, false);
        x.bar(7, true);
        due(x, "longest(0, false, 20000)", 2);
    }

    private static void longestByTries() {
        about("21: by up to n TRIES: just so many are enough, one fewer is SPENT");
        CubeSnakes x = with(3, 2);
        due(x, "longest(0, false, 4)", 4);
        due(x, "tries()", 4);
        due(x, "longest(0, false, 3)", SPENT);
        due(x, "tries()", 3);
        due(x, "longest(0, true, 10)", 6);
        due(x, "longest(0, true, 9)", SPENT);
        due(x, "tries()", 9);
        about("21: (1 .. 20000): 1 is enough for a cube of 1 WAY");
        x.cube(1);
        due(x, "longest(0, false, 1)", 1);
        due(x, "longest(0, true, 1)", 0);
        x.cube(2);
        due(x, "longest(0, false, 1)", SPENT);
        about("21: (1 .. 20000): just 20000 are enough");
        x = with(5, 2);
        bar(x, 30, 18, 2, 19, 14);
        due(x, "longest(0, true, 20000)", 14);
        due(x, "tries()", 20000);
        due(x, "longest(0, true, 19999)", SPENT);
        due(x, "tries()", 19999);
        about("21: SPENT: ROPE p is the longest that was met then, too");
        x = with(3, 2, "555", "5");
        due(x, "longest(0, false, 1)", SPENT);
        rope(x, 0, "0");
        due(x, "longest(2, true, 3)", SPENT);
        rope(x, 2, "");
        due(x, "longest(1, true, 4)", SPENT);
        rope(x, 1, "0101");
        due(x, "many(2)", 3);
        due(x, "finding()", 0);
        x.spread(1);
        x.cube(4);
        // By 200 tries the rows behind the first of 15 steps are all shorter.
        due(x, "longest(0, false, 200)", SPENT);
        due(x, "at(0, -1)", 15);
        due(x, "kind(0)", 2);
    }

    private static void counted(CubeSnakes x, String call, int asked, int tries) {
        due(x, call, 1);
        due("asked() behind " + call, x.asked(), asked);
        due("tries() behind " + call, x.tries(), tries);
    }

    private static void count() {
        about("22: How many SNAKES (RINGS) with so many STEPS SEEKING meets, told by asked(): 1");
        CubeSnakes x = with(3, 2, "5");
        int[] snakes = {1, 1, 1, 1, 1, 0, 0};
        int[] triesOfSnakes = {0, 1, 2, 3, 4, 4, 4};
        int[] rings = {0, 0, 0, 0, 1, 0, 1, 0};
        int[] triesOfRings = {0, 1, 2, 4, 7, 9, 10, 10};
        for (int steps = 0; steps < snakes.length; steps++) {
            counted(x, "count(false, " + steps + ")", snakes[steps], triesOfSnakes[steps]);
        }
        about("22: if rows with so many STEPS are not gone on with");
        for (int steps = 0; steps < rings.length; steps++) {
            counted(x, "count(true, " + steps + ")", rings[steps], triesOfRings[steps]);
        }
        about("22: no ROPE changes");
        due(x, "digest()", digestOf(3, 2, 0, "5"));
        about("22: BAD: steps not 0 .. 64");
        counted(x, "count(false, 64)", 0, 4);
        counted(x, "count(true, 64)", 0, 10);
        allBad(x, "count(false, N)", -1, 65, LEAST, MOST);
        allBad(x, "count(true, N)", -1, 65, LEAST, MOST);
        about("22: STATE");
        x.bar(0, true);
        refused(x, "count(false, 0)", STATE);
        refused(x, "count(true, 4)", STATE);
        about("22: other CORNERS may be BARRED");
        x.bar(0, false);
        x.bar(3, true);
        // 0, 1, 2, then 02, 12, 20, 21; 01 and 10 come to corner 3.
        counted(x, "count(false, 2)", 4, 7);
    }

    private static void countByTries() {
        about("22: by up to 20000 TRIES");
        CubeSnakes x = with(6, 2);
        bar(x, 55, 49, 48, 50, 40);
        counted(x, "count(false, 7)", 13706, 20000);
        about("22: SPENT");
        x.cube(6);
        bar(x, 39, 11, 38, 18, 7);
        // It would take 20001.
        spends(x, "count(false, 7)", 20000);
        due(x, "asked()", 13706);
    }

    private static void classes() {
        about("23: How many of these are not ALIKE, told by asked(): 1");
        CubeSnakes x = with(4, 2);
        int[] snakes = {1, 1, 1, 1, 2, 2, 4, 1, 0};
        int[] triesOfSnakes = {0, 1, 2, 3, 5, 8, 13, 14, 14};
        for (int steps = 0; steps < snakes.length; steps++) {
            counted(x, "classes(false, " + steps + ")", snakes[steps], triesOfSnakes[steps]);
        }
        int[] rings = {0, 0, 0, 0, 1, 0, 1, 0, 3, 0};
        for (int steps = 0; steps < rings.length; steps++) {
            due(x, "classes(true, " + steps + ")", 1);
            due(x, "asked()", rings[steps]);
        }
        about("23: BAD: steps");
        allBad(x, "classes(false, N)", -1, 65, LEAST, MOST);
        allBad(x, "classes(true, N)", -1, 65, LEAST, MOST);
        counted(x, "classes(false, 64)", 0, 14);
        counted(x, "classes(true, 64)", 0, 49);
        about("23: STATE: CORNER 0, or any, is BARRED");
        for (int c = 0; c < 16; c++) {
            x.bar(c, true);
            refused(x, "classes(false, 4)", STATE);
            refused(x, "classes(true, 0)", STATE);
            x.bar(c, false);
        }
        counted(x, "classes(false, 4)", 2, 5);
        about("23: SPENT");
        x.cube(6);
        x.spread(1);
        spends(x, "classes(true, 11)", 20000);
        spends(x, "classes(false, 64)", 20000);
        about("23: SPENT: also more than 200");
        x.spread(2);
        counted(x, "classes(false, 9)", 184, 518);
        due(x, "classOf(183, 0)", 1);
        due(x, "classOf(184, 0)", NONE);
        x.cube(4);
        x.spread(1);
        // There are 208.
        due(x, "classes(false, 10)", SPENT);
        due(x, "asked()", 184);
        due(x, "classOf(183, 0)", 1);
        due(x, "at(0, -1)", 9);
        counted(x, "classes(false, 9)", 141, 497);
    }

    private static void classOf() {
        about("24: NONE before any classes()");
        CubeSnakes x = with(5, 3, "-", "5");
        refused(x, "classOf(0, 0)", NONE);
        refused(x, "classOf(-1, 0)", NONE);
        about("24: ROPE p becomes THE LEAST FORM of class i (by THE LEAST FORMS, the first one 0)");
        due(x, "classes(false, 7)", 1);
        due(x, "asked()", 4);
        String[] forms = {"0123041", "0123042", "0123401", "0123410"};
        for (int i : new int[] {3, 0, 2, 1}) {
            due(x, "classOf(" + i + ", 1)", 1);
            rope(x, 1, forms[i]);
            least(x, 1, forms[i]);
        }
        about("24: a missing ROPE is there then");
        due(x, "classOf(0, 0)", 1);
        rope(x, 0, forms[0]);
        due(x, "many(2)", 2);
        about("24: NONE: none such");
        refused(x, "classOf(4, 2)", NONE);
        refused(x, "classOf(-1, 2)", NONE);
        refused(x, "classOf(" + LEAST + ", 2)", NONE);
        refused(x, "classOf(" + MOST + ", 2)", NONE);
        due(x, "many(2)", 2);
        about("24: BAD: the ROPE");
        allBad(x, "classOf(0, N)", -1, 12, LEAST, MOST);
        allBad(x, "classOf(9, N)", -1, 12);
        about("24: of the latest classes() that answered 1");
        refused(x, "classes(true, 65)", BAD);
        x.bar(3, true);
        refused(x, "classes(true, 6)", STATE);
        x.cube(6);
        x.spread(1);
        spends(x, "classes(true, 12)", 20000);
        due(x, "classes(false, 8)", SPENT);
        counted(x, "count(true, 4)", 1, 9);
        for (int i = 0; i < 4; i++) {
            due(x, "classOf(" + i + ", 2)", 1);
            rope(x, 2, forms[i]);
        }
        refused(x, "classOf(4, 2)", NONE);
        due(x, "classes(false, 0)", 1);
        due(x, "classOf(0, 2)", 1);
        rope(x, 2, "");
        refused(x, "classOf(1, 2)", NONE);
        due(x, "classes(true, 5)", 1);
        refused(x, "classOf(0, 2)", NONE);
    }

    private static void triesAndAsked() {
        about("25: TRIES of the latest longest(), count(), classes(); 0 before");
        CubeSnakes x = with(3, 2, "0");
        due(x, "tries()", 0);
        due(x, "longest(1, true, 20000)", 6);
        due(x, "tries()", 10);
        due(x, "classes(false, 2)", 1);
        due(x, "tries()", 2);
        due(x, "count(false, 3)", 1);
        due(x, "tries()", 3);
        about("25: a SEEKING without a TRY is the latest, too");
        due(x, "count(true, 0)", 1);
        due(x, "tries()", 0);
        due(x, "longest(1, false, 3)", SPENT);
        due(x, "tries()", 3);
        due(x, "classes(false, 0)", 1);
        due(x, "tries()", 0);
        due(x, "count(false, 3)", 1);
        bar(x, 1, 2, 4);
        due(x, "longest(1, false, 3)", 0);
        due(x, "tries()", 0);
        x.cube(3);
        about("25: that was not BAD, STATE");
        due(x, "count(false, 3)", 1);
        x.bar(0, true);
        refused(x, "longest(1, true, 20000)", STATE);
        refused(x, "count(true, 4)", STATE);
        refused(x, "classes(true, 4)", STATE);
        refused(x, "longest(1, true, 0)", BAD);
        refused(x, "count(true, 65)", BAD);
        refused(x, "classes(true, 65)", BAD);
        due(x, "tries()", 3);
        about("25: SPENT ones count");
        x.bar(0, false);
        due(x, "longest(1, true, 7)", SPENT);
        due(x, "tries()", 7);

        about("26: What the latest count(), classes() that answered 1 told; 0 before");
        x = with(4, 2, "0");
        due(x, "asked()", 0);
        due(x, "longest(1, true, 20000)", 8);
        due(x, "asked()", 0);
        due(x, "count(true, 8)", 1);
        due(x, "asked()", 7);
        due(x, "classes(true, 8)", 1);
        due(x, "asked()", 3);
        refused(x, "count(true, 65)", BAD);
        x.bar(0, true);
        refused(x, "count(true, 8)", STATE);
        refused(x, "classes(true, 8)", STATE);
        x.cube(6);
        spends(x, "count(true, 64)", 20000);
        spends(x, "classes(true, 64)", 20000);
        due(x, "asked()", 3);
        due(x, "count(true, 3)", 1);
        due(x, "asked()", 0);
    }
}
