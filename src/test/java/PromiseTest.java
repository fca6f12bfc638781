import java.lang.reflect.Constructor;
import java.lang.reflect.Field;
import java.lang.reflect.Method;
import java.lang.reflect.Modifier;
import java.util.Set;
import java.util.TreeSet;

/** For each promise ordinary calls, the edges that the document names, and wrong ones, with what is due by hand. */
public final class PromiseTest extends Checks {
    /** That a call answered FINDING, and told this one. */
    private static void finds(String call, CubeSnakes x, int got, int which) {
        due(call, got, -3);
        due("finding() after " + call, x.finding(), which);
    }

    public static void main(String[] args) {
        face();
        cubeAndWords();
        ropesChanged();
        whatRopesAre();
        placesInRings();
        formsOfRopes();
        longestOnes();
        counts();
        classesOfRopes();
        told();
        orderOfRefusals();
        openRows();
        nothingThrows();
        end();
    }

    private static void face() {
        about("the public face");
        due("BAD", CubeSnakes.BAD, -1);
        due("FULL", CubeSnakes.FULL, -2);
        due("FINDING", CubeSnakes.FINDING, -3);
        due("STATE", CubeSnakes.STATE, -4);
        due("SPENT", CubeSnakes.SPENT, -6);
        due("NONE", CubeSnakes.NONE, -9);
        Set<String> members = new TreeSet<>();
        for (Method m : CubeSnakes.class.getDeclaredMethods()) {
            if (!Modifier.isPrivate(m.getModifiers())) {
                members.add(m.getName());
            }
        }
        for (Field f : CubeSnakes.class.getDeclaredFields()) {
            if (!Modifier.isPrivate(f.getModifiers())) {
                members.add(f.getName());
            }
        }
        String all = "[BAD, FINDING, FULL, NONE, SPENT, STATE, alike, asked, at, bar, barred, classOf, classes, corner, "
            + "count, cube, cut, digest, far, fault, finding, findings, join, kind, least, longest, many, open, read, "
            + "spread, step, tear, tries, turns, word]";
        due("the members are " + members, members.toString().equals(all) ? 1 : 0, 1);
        Constructor<?>[] constructors = CubeSnakes.class.getConstructors();
        due("constructors", constructors.length, 1);
    }

    private static void cubeAndWords() {
        about("1 a new object");
        CubeSnakes x = new CubeSnakes();
        due("many(0)", x.many(0), 3);
        due("many(1)", x.many(1), 2);
        due("many(2)", x.many(2), 0);
        due("many(3)", x.many(3), 0);
        due("barred()", x.barred(), 0);
        due("finding()", x.finding(), 0);
        due("tries()", x.tries(), 0);
        due("asked()", x.asked(), 0);
        due("digest()", x.digest(), digestOf(3, 2, 0));
        for (int p = 0; p < 12; p++) {
            due("tear(" + p + ")", x.tear(p), -3);
        }

        about("2 cube");
        due("cube(1)", x.cube(1), 1);
        due("bar(2, true)", x.bar(2, true), -1);
        due("cube(6)", x.cube(6), 6);
        due("bar(63, true)", x.bar(63, true), 0);
        due("cube(0)", x.cube(0), -1);
        due("cube(7)", x.cube(7), -1);
        due("cube(-1)", x.cube(-1), -1);
        due("many(0) after BAD", x.many(0), 6);
        due("many(3) after BAD", x.many(3), 1);
        due("cube(6) again", x.cube(6), 6);
        due("barred() behind cube()", x.barred(), 0);
        due("many(1)", x.many(1), 2);

        about("3 spread");
        due("spread(3)", x.spread(3), 1);
        due("many(1)", x.many(1), 3);
        due("spread(1)", x.spread(1), 1);
        due("spread(0)", x.spread(0), -1);
        due("spread(4)", x.spread(4), -1);
        due("many(1)", x.many(1), 1);
        due("spread(2)", x.spread(2), 1);
        due("many(1)", x.many(1), 2);

        about("4 bar, 5 barred");
        due("bar(63, true)", x.bar(63, true), 0);
        due("bar(63, true)", x.bar(63, true), 1);
        due("bar(0, false)", x.bar(0, false), 0);
        due("bar(0, true)", x.bar(0, true), 0);
        due("bar(32, true)", x.bar(32, true), 0);
        due("bar(64, true)", x.bar(64, true), -1);
        due("bar(-1, true)", x.bar(-1, true), -1);
        due("barred()", x.barred(), Long.MIN_VALUE + (1L << 32) + 1);
        due("many(3)", x.many(3), 3);
        due("bar(63, false)", x.bar(63, false), 1);
        due("bar(63, false)", x.bar(63, false), 0);
        due("barred()", x.barred(), (1L << 32) + 1);
        x.cube(3);
        due("bar(8, true)", x.bar(8, true), -1);
        due("bar(7, true)", x.bar(7, true), 0);
        due("barred()", x.barred(), 128);

        about("6 word");
        due("word(-1)", x.word(-1), -1);
        due("word(12)", x.word(12), -1);
        due("word(11)", x.word(11), 0);
        due("word(0)", x.word(0), 0);
        x.step(0, 1);
        due("word(0)", x.word(0), 1);
        rope(x, 0, "");
        due("many(2)", x.many(2), 2);

        about("7 step");
        due("step(0, 5)", x.step(0, 5), 1);
        due("step(0, 0)", x.step(0, 0), 2);
        rope(x, 0, "50");
        due("step(0, 6)", x.step(0, 6), -1);
        due("step(0, -1)", x.step(0, -1), -1);
        due("step(12, 0)", x.step(12, 0), -1);
        due("step(-1, 0)", x.step(-1, 0), -1);
        finds("step(1, 0)", x, x.step(1, 0), 1);
        due("step(1, 6)", x.step(1, 6), -1);
        for (int n = 3; n <= 64; n++) {
            due("step(0, " + n % 6 + ")", x.step(0, n % 6), n);
        }
        due("step 65", x.step(0, 0), -2);
        due("step 65 of a bad way", x.step(0, 6), -1);
        due("at(0, -1)", x.at(0, -1), 64);
    }

    private static void ropesChanged() {
        about("8 at");
        CubeSnakes x = with(3, 2, "0145");
        rope(x, 0, "0145");
        finds("at(0, 4)", x, x.at(0, 4), 2);
        finds("at(1, 0)", x, x.at(1, 0), 1);
        finds("at(0, -2)", x, x.at(0, -2), 2);
        finds("at(1, -1)", x, x.at(1, -1), 1);
        due("at(12, 0)", x.at(12, 0), -1);
        due("at(-1, 0)", x.at(-1, 0), -1);
        due("findings(2)", x.findings(2), 2);

        about("9 cut");
        due("cut(0, 3)", x.cut(0, 3), 3);
        rope(x, 0, "014");
        finds("cut(0, 4)", x, x.cut(0, 4), 2);
        finds("cut(0, -1)", x, x.cut(0, -1), 4);
        finds("cut(1, 0)", x, x.cut(1, 0), 1);
        finds("cut(1, -1)", x, x.cut(1, -1), 4);
        finds("cut(1, 5)", x, x.cut(1, 5), 1);
        due("cut(12, -1)", x.cut(12, -1), -1);
        due("cut(-1, 0)", x.cut(-1, 0), -1);
        due("cut(0, 3)", x.cut(0, 3), 3);
        due("cut(0, 0)", x.cut(0, 0), 0);
        rope(x, 0, "");
        due("step behind cut", x.step(0, 2), 1);
        rope(x, 0, "2");

        about("10 tear");
        due("tear(0)", x.tear(0), 1);
        due("many(2)", x.many(2), 0);
        finds("tear(0)", x, x.tear(0), 1);
        due("tear(12)", x.tear(12), -1);
        due("tear(-1)", x.tear(-1), -1);
        due("word(0)", x.word(0), 0);
        rope(x, 0, "");

        about("11 join");
        x = with(3, 2, "0123", "45");
        due("join(0, 1, 2, 1)", x.join(0, 1, 2, 1), 4);
        rope(x, 1, "4512");
        rope(x, 0, "0123");
        due("join(1, 0, 0, 0)", x.join(1, 0, 0, 0), 4);
        due("join(1, 4, 0, 0)", x.join(1, 4, 0, 0), 4);
        finds("join(1, 5, 0, 0)", x, x.join(1, 5, 0, 0), 2);
        finds("join(0, 3, 2, 1)", x, x.join(0, 3, 2, 1), 2);
        finds("join(5, 0, 0, 0)", x, x.join(5, 0, 0, 0), 1);
        finds("join(0, 3, 2, 1)", x, x.join(0, 3, 2, 1), 2);
        finds("join(0, 9, 9, 5)", x, x.join(0, 9, 9, 5), 1);
        finds("join(0, 0, -1, 1)", x, x.join(0, 0, -1, 1), 2);
        finds("join(0, -1, 2, 1)", x, x.join(0, -1, 2, 1), 2);
        int most = Integer.MAX_VALUE;
        finds("join(0, most, most, 1)", x, x.join(0, most, most, 1), 2);
        finds("join(0, 1, most, 1)", x, x.join(0, 1, most, 1), 2);
        due("join(12, 0, 0, 0)", x.join(12, 0, 0, 0), -1);
        due("join(0, 0, 0, 12)", x.join(0, 0, 0, 12), -1);
        due("join(-1, 0, 0, 0)", x.join(-1, 0, 0, 0), -1);
        due("join(0, 0, 0, -1)", x.join(0, 0, 0, -1), -1);
        rope(x, 1, "4512");
        due("join(0, 1, 3, 0)", x.join(0, 1, 3, 0), 7);
        rope(x, 0, "0123123");
        for (int n = 8; n <= 60; n += 4) {
            due("join(1, 0, 4, 1)", x.join(1, 0, 4, 1), n);
        }
        due("join(0, 0, 5, 1)", x.join(0, 0, 5, 1), -2);
        finds("join(0, 0, 8, 1)", x, x.join(0, 0, 8, 1), 2);
        due("join(0, 0, 4, 1)", x.join(0, 0, 4, 1), 64);
        due("join(0, 0, 0, 1)", x.join(0, 0, 0, 1), 64);
    }

    private static void whatRopesAre() {
        about("12 kind");
        CubeSnakes x = with(3, 2, "", "012", "0120", "012012", "01201", "3", "0101", "00");
        int[] kinds = {1, 1, 2, 3, 0, 0, 3, 0};
        for (int p = 0; p < kinds.length; p++) {
            due("kind(" + p + ")", x.kind(p), kinds[p]);
        }
        finds("kind(8)", x, x.kind(8), 1);
        due("kind(12)", x.kind(12), -1);
        due("kind(-1)", x.kind(-1), -1);
        x.bar(6, true);
        // Behind 0, 1, 2 only corner 6 is free: with it barred the snake is heavy.
        due("kind(1) with 6 barred", x.kind(1), 2);
        due("kind(2) with 6 barred", x.kind(2), 0);
        due("kind(3) with 6 barred", x.kind(3), 0);
        x.bar(6, false);
        x.bar(0, true);
        due("kind(0) with 0 barred", x.kind(0), 0);
        due("kind(3) with 0 barred", x.kind(3), 0);
        // Closed rows with two corners too near: 0 and 3, then 2 and 5, then many.
        x = with(3, 2, "010212", "102120", "01020102");
        due("kind(0), 0 near 3", x.kind(0), 0);
        due("kind(1), 2 near 5", x.kind(1), 0);
        due("kind(2), many near", x.kind(2), 0);
        x.spread(1);
        due("kind(0), spread 1", x.kind(0), 3);
        due("kind(1), spread 1", x.kind(1), 3);
        x = with(3, 1, "00", "0101", "01020102", "0102010", "012012");
        due("kind(0), spread 1", x.kind(0), 0);
        due("kind(1), spread 1", x.kind(1), 3);
        due("kind(2), spread 1", x.kind(2), 3);
        due("kind(3), spread 1", x.kind(3), 2);
        due("kind(4), spread 1", x.kind(4), 3);
        x = with(3, 3, "0101", "012012", "0120", "012");
        due("kind(0), spread 3", x.kind(0), 0);
        due("kind(1), spread 3", x.kind(1), 3);
        due("kind(2), spread 3", x.kind(2), 0);
        due("kind(3), spread 3", x.kind(3), 2);
        x = with(1, 1, "0", "");
        due("kind(0), 1 way", x.kind(0), 2);
        due("kind(1), 1 way", x.kind(1), 1);

        about("13 corner");
        x = with(3, 2, "01203");
        int[] corners = {0, 1, 3, 7, 6};
        for (int i = 0; i < corners.length; i++) {
            due("corner(0, " + i + ")", x.corner(0, i), corners[i]);
        }
        finds("corner(0, 5)", x, x.corner(0, 5), 2);
        finds("corner(1, 0)", x, x.corner(1, 0), 1);
        finds("corner(0, -1)", x, x.corner(0, -1), 2);
        due("corner(12, 0)", x.corner(12, 0), -1);
        due("corner(-1, 0)", x.corner(-1, 0), -1);
        x.cube(4);
        due("corner(0, 5) of 4 ways", x.corner(0, 5), 14);
        finds("corner(0, 6)", x, x.corner(0, 6), 2);
        x.bar(14, true);
        due("corner(0, 5) barred", x.corner(0, 5), 14);

        about("14 fault");
        x = with(3, 2, "01201", "013", "0120", "", "00", "012012");
        due("fault(0, 0)", x.fault(0, 0), 5);
        due("fault(0, 1)", x.fault(0, 1), 0);
        due("fault(1, 0)", x.fault(1, 0), 3);
        due("fault(1, 1)", x.fault(1, 1), 3);
        due("fault(2, 0)", x.fault(2, 0), -9);
        due("fault(2, 1)", x.fault(2, 1), -9);
        due("fault(3, 0)", x.fault(3, 0), -9);
        due("fault(4, 0)", x.fault(4, 0), 2);
        due("fault(4, 1)", x.fault(4, 1), 0);
        due("fault(5, 0)", x.fault(5, 0), 5);
        x.bar(3, true);
        due("fault(0, 0) with 3 barred", x.fault(0, 0), 2);
        due("fault(0, 1) with 3 barred", x.fault(0, 1), 2);
        due("fault(1, 0) with 3 barred", x.fault(1, 0), 2);
        x.bar(0, true);
        due("fault(3, 0) with 0 barred", x.fault(3, 0), 0);
        due("fault(3, 1) with 0 barred", x.fault(3, 1), 0);
        x.bar(0, false);
        x.bar(3, false);
        x.bar(4, true);
        due("fault(0, 0) with 4 barred", x.fault(0, 0), 5);
        due("fault(0, 1): barred ahead of too near", x.fault(0, 1), 5);
        finds("fault(6, 0)", x, x.fault(6, 0), 1);
        due("fault(6, 2)", x.fault(6, 2), -1);
        due("fault(0, -1)", x.fault(0, -1), -1);
        due("fault(12, 0)", x.fault(12, 0), -1);
        due("fault(-1, 0)", x.fault(-1, 0), -1);
        x = with(4, 2, "01232");
        due("fault(0, 0) of 01232", x.fault(0, 0), 5);
        due("fault(0, 1) of 01232", x.fault(0, 1), 2);

        about("15 open");
        x = with(3, 2, "", "0", "01", "012", "0120", "012012", "3");
        int[] open = {3, 2, 1, 1, 0};
        for (int p = 0; p < open.length; p++) {
            due("open(" + p + ")", x.open(p), open[p]);
        }
        finds("open(7)", x, x.open(7), 1);
        finds("open(5)", x, x.open(5), 3);
        finds("open(7)", x, x.open(7), 1);
        finds("open(6)", x, x.open(6), 3);
        due("open(12)", x.open(12), -1);
        due("open(-1)", x.open(-1), -1);
        x.bar(2, true);
        due("open(0) with 2 barred", x.open(0), 2);
    }

    private static void placesInRings() {
        about("16 read");
        CubeSnakes x = with(3, 2, "012012", "0101", "012", "");
        int[] places = {0, 1, -13, 2, 5, -13, 4, 3};
        for (int c = 0; c < 8; c++) {
            due("read(0, " + c + ")", x.read(0, c), places[c]);
        }
        finds("read(4, 0)", x, x.read(4, 0), 1);
        finds("read(2, 0)", x, x.read(2, 0), 3);
        due("read(0, 8)", x.read(0, 8), -1);
        due("read(0, -1)", x.read(0, -1), -1);
        due("read(4, 8)", x.read(4, 8), -1);
        due("read(12, 0)", x.read(12, 0), -1);
        due("read(-1, 0)", x.read(-1, 0), -1);
        x.cube(4);
        due("read(1, 4)", x.read(1, 4), -11);
        due("read(1, 12)", x.read(1, 12), -10);
        due("read(0, 8)", x.read(0, 8), -11);
        due("read(0, 10)", x.read(0, 10), -10);

        about("17 far");
        x = with(3, 2, "", "012", "0120", "0101", "0102", "012012");
        due("far(0)", x.far(0), 4);
        due("far(1)", x.far(1), 0);
        due("far(2)", x.far(2), 0);
        due("far(3)", x.far(3), 0);
        finds("far(4)", x, x.far(4), 3);
        finds("far(6)", x, x.far(6), 1);
        due("far(12)", x.far(12), -1);
        due("far(-1)", x.far(-1), -1);
        x.cube(6);
        due("far(0) of 6 ways", x.far(0), 57);
        due("far(3) of 6 ways", x.far(3), 44);
        x.bar(63, true);
        due("far(0) with 63 barred", x.far(0), 57);
        x.cube(1);
        due("far(0) of 1 way", x.far(0), 0);
        x.cube(2);
        due("far(0) of 2 ways", x.far(0), 1);
    }

    private static void formsOfRopes() {
        about("18 alike");
        CubeSnakes x = with(4, 2, "0123", "3210", "2031", "0120", "012012", "120120", "2312", "0101", "00", "10302", "02310");
        due("alike(0, 1)", x.alike(0, 1), 1);
        due("alike(0, 2)", x.alike(0, 2), 1);
        due("alike(0, 3)", x.alike(0, 3), 0);
        due("alike(3, 6)", x.alike(3, 6), 1);
        due("alike(4, 5)", x.alike(4, 5), 1);
        due("alike(4, 7)", x.alike(4, 7), 0);
        due("alike(7, 7)", x.alike(7, 7), 1);
        finds("alike(0, 4)", x, x.alike(0, 4), 3);
        finds("alike(11, 4)", x, x.alike(11, 4), 1);
        finds("alike(4, 0)", x, x.alike(4, 0), 3);
        finds("alike(4, 11)", x, x.alike(4, 11), 1);
        finds("alike(8, 8)", x, x.alike(8, 8), 3);
        finds("alike(8, 0)", x, x.alike(8, 0), 3);
        due("alike(12, 0)", x.alike(12, 0), -1);
        due("alike(0, 12)", x.alike(0, 12), -1);
        due("alike(-1, 0)", x.alike(-1, 0), -1);
        due("alike(0, -1)", x.alike(0, -1), -1);
        due("alike(0, 10): other lengths", x.alike(0, 10), 0);
        // A ring is alike from any of its corners on, backward, too.
        x = with(4, 2, "01203123", "03120312", "21302130", "01230123", "32103210", "12031230", "31230120");
        due("kind(0)", x.kind(0), 3);
        due("alike(0, 5): begun elsewhere", x.alike(0, 5), 1);
        due("alike(5, 0)", x.alike(5, 0), 1);
        due("alike(0, 3)", x.alike(0, 3), 0);
        due("alike(3, 4)", x.alike(3, 4), 1);
        due("alike(0, 6)", x.alike(0, 6), 1);

        about("19 least");
        x = with(6, 2, "5343", "345", "534", "543215", "", "2121", "00", "30130131");
        String[] least = {"", "012", "012", "012340", "", "0101"};
        for (int p = 1; p < least.length; p++) {
            for (int i = 0; i < least[p].length(); i++) {
                due("least(" + p + ", " + i + ")", x.least(p, i), least[p].charAt(i) - '0');
            }
            finds("least(" + p + ") behind the end", x, x.least(p, least[p].length()), 2);
        }
        finds("least(1, -1)", x, x.least(1, -1), 2);
        finds("least(6, 0)", x, x.least(6, 0), 3);
        finds("least(1, 3)", x, x.least(1, 3), 2);
        finds("least(6, 9): unlike ahead of beyond", x, x.least(6, 9), 3);
        finds("least(8, 0)", x, x.least(8, 0), 1);
        due("least(12, 0)", x.least(12, 0), -1);
        due("least(-1, 0)", x.least(-1, 0), -1);
        // Read backward 01232.. would begin 010: the lesser reading is the one from behind.
        x = with(6, 2, "012034", "432012", "012343");
        due("kind(0)", x.kind(0), 1);
        String back = "012034";
        for (int i = 0; i < 6; i++) {
            due("least(0, " + i + ")", x.least(0, i), back.charAt(i) - '0');
        }
        x = with(5, 2, "01230", "01231", "13210");
        due("kind(1)", x.kind(1), 1);
        String forward = "01203";
        x = with(5, 2, "01234014", "32143");
        due("kind(1)", x.kind(1), 1);
        x = with(5, 2, "0123410", "30210", "01203");
        due("kind(1)", x.kind(1), 1);
        for (int i = 0; i < 5; i++) {
            due("least(1, " + i + ") of 30210", x.least(1, i), forward.charAt(i) - '0');
            due("least(2, " + i + ") of 01203", x.least(2, i), forward.charAt(i) - '0');
        }

        about("20 turns");
        x = with(3, 2, "012012", "0101", "012", "", "01230123");
        due("turns(0)", x.turns(0), 12);
        due("turns(1)", x.turns(1), 8);
        finds("turns(2)", x, x.turns(2), 3);
        finds("turns(5)", x, x.turns(5), 1);
        due("turns(12)", x.turns(12), -1);
        due("turns(-1)", x.turns(-1), -1);
        x.cube(4);
        due("turns(1) of 4 ways", x.turns(1), 16);
        due("turns(4)", x.turns(4), 16);
        x.cube(6);
        due("turns(1) of 6 ways", x.turns(1), 192);
        x.cube(2);
        due("turns(1) of 2 ways", x.turns(1), 8);
        // With spread 1 a ring may come to all corners: then each turn keeps them.
        x = with(3, 1, "01020102");
        due("turns(0) of all corners", x.turns(0), 48);
    }

    private static void longestOnes() {
        about("21 longest, 25 tries");
        CubeSnakes x = with(3, 2);
        due("longest(1, false, 4)", x.longest(1, false, 4), 4);
        due("tries()", x.tries(), 4);
        rope(x, 1, "0120");
        due("longest(1, false, 3)", x.longest(1, false, 3), -6);
        due("tries()", x.tries(), 3);
        rope(x, 1, "012");
        due("longest(1, true, 9)", x.longest(1, true, 9), -6);
        due("tries()", x.tries(), 9);
        due("longest(1, true, 10)", x.longest(1, true, 10), 6);
        due("tries()", x.tries(), 10);
        rope(x, 1, "012012");
        due("longest(1, true, 1)", x.longest(1, true, 1), -6);
        rope(x, 1, "");
        due("longest(0, true, 0)", x.longest(0, true, 0), -1);
        due("longest(0, true, 20001)", x.longest(0, true, 20001), -1);
        due("longest(12, true, 5)", x.longest(12, true, 5), -1);
        due("longest(-1, true, 5)", x.longest(-1, true, 5), -1);
        due("tries() behind BAD", x.tries(), 1);
        due("many(2)", x.many(2), 1);
        x.bar(0, true);
        due("longest(1, false, 5)", x.longest(1, false, 5), -4);
        due("longest(12, false, 5)", x.longest(12, false, 5), -1);
        rope(x, 1, "");
        due("tries() behind STATE", x.tries(), 1);
        x.bar(0, false);
        x.bar(1, true);
        // Nothing is left out now: the first step goes by way 1, 2, too.
        due("longest(2, false, 20000)", x.longest(2, false, 20000), 4);
        rope(x, 2, "1021");
        x.bar(2, true);
        x.bar(4, true);
        // No step leads away from corner 0.
        due("longest(2, false, 1), shut in", x.longest(2, false, 1), 0);
        due("tries()", x.tries(), 0);
        rope(x, 2, "");
        x.cube(1);
        due("longest(3, true, 20000)", x.longest(3, true, 20000), 0);
        rope(x, 3, "");
        due("longest(3, false, 20000)", x.longest(3, false, 20000), 1);
        x.cube(4);
        due("longest(3, false, 20000) of 4 ways", x.longest(3, false, 20000), 7);
        rope(x, 3, "0120310");
        x.spread(1);
        due("longest(3, true, 20000), spread 1", x.longest(3, true, 20000), 16);
        due("tries()", x.tries(), 4742);
        due("longest(3, true, 4742), spread 1", x.longest(3, true, 4742), 16);
        due("longest(3, true, 4741), spread 1", x.longest(3, true, 4741), -6);
        due("tries()", x.tries(), 4741);
        x.cube(6);
        due("longest(3, true, 20000), all corners", x.longest(3, true, 20000), -6);
        due("tries()", x.tries(), 20000);
        due("at(3, -1)", x.at(3, -1), 64);
        due("kind(3)", x.kind(3), 3);
        due("longest(3, false, 20000), all corners", x.longest(3, false, 20000), -6);
        due("at(3, -1)", x.at(3, -1), 63);
        due("kind(3)", x.kind(3), 2);
        due("open(3)", x.open(3), 0);
    }

    private static void counts() {
        about("22 count, 26 asked");
        CubeSnakes x = with(3, 2);
        due("count(false, 0)", x.count(false, 0), 1);
        due("asked()", x.asked(), 1);
        due("tries()", x.tries(), 0);
        due("count(true, 0)", x.count(true, 0), 1);
        due("asked()", x.asked(), 0);
        due("tries()", x.tries(), 0);
        due("count(false, 3)", x.count(false, 3), 1);
        due("asked()", x.asked(), 1);
        due("tries()", x.tries(), 3);
        due("count(false, 5)", x.count(false, 5), 1);
        due("asked()", x.asked(), 0);
        due("count(false, 0)", x.count(false, 0), 1);
        due("tries() of none", x.tries(), 0);
        due("count(false, 64)", x.count(false, 64), 1);
        due("asked()", x.asked(), 0);
        due("tries()", x.tries(), 4);
        due("count(true, 4)", x.count(true, 4), 1);
        due("asked()", x.asked(), 1);
        due("count(true, 6)", x.count(true, 6), 1);
        due("asked()", x.asked(), 1);
        due("count(true, 64)", x.count(true, 64), 1);
        due("asked()", x.asked(), 0);
        due("tries()", x.tries(), 10);
        due("count(true, 65)", x.count(true, 65), -1);
        due("count(true, -1)", x.count(true, -1), -1);
        x.bar(7, true);
        // All ways are tried as soon as a corner is barred: 3, then 6 snakes, none through corner 7.
        due("count(false, 1)", x.count(false, 1), 1);
        due("asked()", x.asked(), 3);
        due("count(false, 2)", x.count(false, 2), 1);
        due("asked()", x.asked(), 6);
        due("count(false, 3)", x.count(false, 3), 1);
        due("asked()", x.asked(), 0);
        x.bar(0, true);
        due("count(false, 1)", x.count(false, 1), -4);
        due("count(false, 65)", x.count(false, 65), -1);
        due("asked()", x.asked(), 0);
        due("tries()", x.tries(), 9);
        x.cube(6);
        x.spread(1);
        due("count(false, 4)", x.count(false, 4), 1);
        long before = x.asked();
        due("count(false, 64)", x.count(false, 64), -6);
        due("tries()", x.tries(), 20000);
        due("asked() behind SPENT", x.asked(), before);
        due("classes(false, 2)", x.classes(false, 2), 1);
        due("asked()", x.asked(), 1);
        x.spread(2);
        for (int corner : new int[] {10, 24, 27, 40, 43}) {
            x.bar(corner, true);
        }
        // Just as many tries as may be.
        due("count(false, 7)", x.count(false, 7), 1);
        due("tries()", x.tries(), 20000);
        due("asked()", x.asked(), 14176);
    }

    private static void classesOfRopes() {
        about("23 classes, 24 classOf");
        CubeSnakes x = with(4, 2);
        due("classOf(0, 0) before", x.classOf(0, 0), -9);
        due("many(2)", x.many(2), 0);
        due("classes(false, 4)", x.classes(false, 4), 1);
        due("asked()", x.asked(), 2);
        due("classOf(0, 0)", x.classOf(0, 0), 1);
        rope(x, 0, "0120");
        due("classOf(1, 1)", x.classOf(1, 1), 1);
        rope(x, 1, "0123");
        due("classOf(2, 1)", x.classOf(2, 1), -9);
        due("classOf(-1, 1)", x.classOf(-1, 1), -9);
        due("classOf(0, 12)", x.classOf(0, 12), -1);
        due("classOf(0, -1)", x.classOf(0, -1), -1);
        due("classOf(9, 12)", x.classOf(9, 12), -1);
        rope(x, 1, "0123");
        due("classes(true, 8)", x.classes(true, 8), 1);
        due("asked()", x.asked(), 3);
        String[] rings = {"01203123", "01203213", "01230123"};
        for (int i = 0; i < 3; i++) {
            due("classOf(" + i + ", 2)", x.classOf(i, 2), 1);
            rope(x, 2, rings[i]);
            due("kind(2)", x.kind(2), 3);
            due("at(2, -1)", x.at(2, -1), 8);
            for (int j = 0; j < 8; j++) {
                due("least(2, " + j + ")", x.least(2, j), x.at(2, j));
            }
        }
        due("classes(true, 64)", x.classes(true, 64), 1);
        due("asked()", x.asked(), 0);
        due("classOf(0, 2)", x.classOf(0, 2), -9);
        due("classes(true, 8)", x.classes(true, 8), 1);
        due("classes(false, 65)", x.classes(false, 65), -1);
        due("classes(false, -1)", x.classes(false, -1), -1);
        x.bar(15, true);
        due("classes(false, 4)", x.classes(false, 4), -4);
        due("classes(false, 65) barred", x.classes(false, 65), -1);
        due("asked() behind STATE", x.asked(), 3);
        due("classOf(2, 0) behind STATE", x.classOf(2, 0), 1);
        rope(x, 0, "01230123");
        x.bar(15, false);
        x.bar(0, true);
        due("classes(false, 4) with 0 barred", x.classes(false, 4), -4);
        x.cube(6);
        x.spread(1);
        due("classes(false, 63)", x.classes(false, 63), -6);
        due("asked() behind SPENT", x.asked(), 3);
        due("classOf(2, 3) behind SPENT", x.classOf(2, 3), 1);
        rope(x, 3, "01230123");
        due("classOf(3, 3) behind SPENT", x.classOf(3, 3), -9);
        due("classes(false, 5)", x.classes(false, 5), 1);
        long five = x.asked();
        // More than 200 classes with far less than 20000 tries: spent, and what was known stays.
        due("classes(false, 8)", x.classes(false, 8), -6);
        due("tries() up to class 201", x.tries(), 355);
        due("asked() behind too many", x.asked(), five);
        due("the last class behind too many", x.classOf((int) five - 1, 3), 1);
        rope(x, 3, "01234");
        due("classes(true, 11)", x.classes(true, 11), -6);
        due("tries() of too many", x.tries(), 20000);
        due("asked() behind too many tries", x.asked(), five);
        due("classes(false, 0)", x.classes(false, 0), 1);
        due("asked()", x.asked(), 1);
        due("tries() of none", x.tries(), 0);
        due("classOf(0, 3)", x.classOf(0, 3), 1);
        rope(x, 3, "");
        due("classes(true, 0)", x.classes(true, 0), 1);
        due("asked()", x.asked(), 0);
        due("classOf(0, 3)", x.classOf(0, 3), -9);
        due("classes(true, 6)", x.classes(true, 6), 1);
        due("tries() of classes()", x.tries() > 0 ? 1 : 0, 1);
        due("count(true, 4)", x.count(true, 4), 1);
        due("classOf(0, 4) behind count()", x.classOf(0, 4), 1);
        rope(x, 4, "010212");
    }

    private static void told() {
        about("27 many");
        CubeSnakes x = with(5, 3, "", "", "-", "01");
        x.bar(31, true);
        x.bar(1, true);
        due("many(0)", x.many(0), 5);
        due("many(1)", x.many(1), 3);
        due("many(2)", x.many(2), 3);
        due("many(3)", x.many(3), 2);
        due("many(4)", x.many(4), -1);
        due("many(-1)", x.many(-1), -1);

        about("28 finding, 29 findings");
        x = with(3, 2, "0");
        due("finding()", x.finding(), 0);
        for (int f = 1; f <= 4; f++) {
            due("findings(" + f + ")", x.findings(f), 0);
        }
        x.cut(0, -1);
        due("finding()", x.finding(), 4);
        x.tear(1);
        due("finding()", x.finding(), 1);
        x.at(0, 1);
        due("finding()", x.finding(), 2);
        x.turns(0);
        due("finding()", x.finding(), 3);
        x.step(0, 6);
        x.kind(0);
        due("finding() stays", x.finding(), 3);
        x.turns(0);
        due("findings(1)", x.findings(1), 1);
        due("findings(2)", x.findings(2), 1);
        due("findings(3)", x.findings(3), 2);
        due("findings(4)", x.findings(4), 1);
        due("findings(0)", x.findings(0), -1);
        due("findings(5)", x.findings(5), -1);
        due("findings(-1)", x.findings(-1), -1);

        about("30 digest");
        due("digest()", with(3, 2).digest(), digestOf(3, 2, 0));
        due("digest()", with(6, 1, "", "-", "543210").digest(), digestOf(6, 1, 0, "", "-", "543210"));
        x = with(6, 3, "1", "0", "-", "-", "-", "-", "-", "-", "-", "-", "-", "55");
        x.bar(63, true);
        x.bar(5, true);
        due("digest()", x.digest(), digestOf(6, 3, Long.MIN_VALUE + 32, "1", "0", "-", "-", "-", "-", "-", "-", "-", "-", "-", "55"));
        long before = x.digest();
        x.tear(3);
        x.count(true, 4);
        x.classes(true, 4);
        x.step(0, 9);
        due("digest() stays", x.digest(), before);
        x.tear(11);
        due("digest() behind tear", x.digest(), digestOf(6, 3, Long.MIN_VALUE + 32, "1", "0"));
    }

    private static void orderOfRefusals() {
        about("answers: the order of refusals");
        CubeSnakes x = with(3, 2, "0");
        long before = x.digest();
        due("alike(12, 5)", x.alike(12, 5), -1);
        due("alike(5, 12)", x.alike(5, 12), -1);
        due("join(5, -1, -1, 12)", x.join(5, -1, -1, 12), -1);
        due("read(5, 99)", x.read(5, 99), -1);
        due("finding() of BAD", x.finding(), 0);
        finds("join(5, -1, 99, 0)", x, x.join(5, -1, 99, 0), 1);
        finds("join(0, 0, 2, 5)", x, x.join(0, 0, 2, 5), 1);
        finds("corner(5, 99)", x, x.corner(5, 99), 1);
        finds("at(5, 99)", x, x.at(5, 99), 1);
        finds("least(5, 99)", x, x.least(5, 99), 1);
        due("digest()", x.digest(), before);
    }

    /** With spread 3 rows that come home may come near their first corners: each such row is a try. */
    private static void openRows() {
        about("2 seeking: open rows");
        CubeSnakes x = with(2, 3);
        // 0, 01, 010 are open (corner 2 is near to corner 0, but comes home); 0101 is no ring of 6.
        due("longest(0, true, 20000)", x.longest(0, true, 20000), 0);
        due("tries()", x.tries(), 3);
        x.spread(2);
        due("longest(0, true, 20000)", x.longest(0, true, 20000), 4);
        due("tries()", x.tries(), 4);
        x.spread(1);
        due("longest(0, true, 20000)", x.longest(0, true, 20000), 4);
        due("tries()", x.tries(), 4);
        due("longest(0, false, 20000)", x.longest(0, false, 20000), 3);
        due("tries()", x.tries(), 3);
        x.bar(2, true);
        due("longest(0, true, 20000), barred", x.longest(0, true, 20000), 0);
        due("tries()", x.tries(), 2);
    }

    /** Each call with numbers at the ends of what numbers there are. */
    private static void nothingThrows() {
        about("no call throws");
        int[] ends = {Integer.MIN_VALUE, Integer.MIN_VALUE + 1, -2, -1, 0, 1, 11, 12, 63, 64, 65, 1 << 30, Integer.MAX_VALUE};
        for (int a : ends) {
            CubeSnakes x = with(6, 1, "01", "01020103010201040102010301020105");
            x.cube(a);
            x.spread(a);
            x.bar(a, true);
            x.word(a);
            x.tear(a);
            x.kind(a);
            x.open(a);
            x.far(a);
            x.turns(a);
            x.many(a);
            x.findings(a);
            x.count(true, a);
            x.count(false, a);
            x.classes(true, a);
            x.classes(false, a);
            for (int b : ends) {
                x.step(a, b);
                x.at(a, b);
                x.cut(a, b);
                x.corner(a, b);
                x.fault(a, b);
                x.read(a, b);
                x.alike(a, b);
                x.least(a, b);
                x.classOf(a, b);
                x.longest(a, true, b);
                x.longest(a, false, b);
                for (int c : ends) {
                    x.join(a, b, c, 0);
                    x.join(1, b, c, a);
                }
            }
        }
    }
}
