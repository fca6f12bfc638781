/** Long runs of calls, from a fixed row of numbers, on CubeSnakes and on PlainSnakes: all must answer alike. */
public final class ModelTest {
    private static final int RUNS = 400, CALLS = 250;

    private final int run;
    private final CubeSnakes real = new CubeSnakes();
    private final PlainSnakes plain = new PlainSnakes();
    private final StringBuilder told = new StringBuilder();
    private long state;
    private int wrong = 0;

    private ModelTest(int run) {
        this.run = run;
        state = 1000003L * run + 77;
    }

    public static void main(String[] args) {
        int wrong = 0;
        for (int run = 0; run < RUNS; run++) {
            wrong += new ModelTest(run).go();
        }
        wrong += bigSeekings();
        System.out.println(wrong == 0 ? "all answers are as due" : wrong + " answers are not as due");
        if (wrong != 0) {
            System.exit(1);
        }
    }

    /** The same numbers each time: no test may depend on chance. */
    private int below(int n) {
        state = state * 6364136223846793005L + 1442695040888963407L;
        return (int) ((state >>> 33) % n);
    }

    private void same(String call, long got, long want) {
        told.append(call).append(" = ").append(want).append('\n');
        if (got == want) {
            return;
        }
        wrong++;
        if (wrong == 1) {
            System.out.println("run " + run + ":\n" + told + "but the last one answered " + got);
        }
    }

    private int go() {
        for (int c = 0; c < CALLS && wrong == 0; c++) {
            call();
            same("finding()", real.finding(), plain.finding());
            same("tries()", real.tries(), plain.tries());
            same("asked()", real.asked(), plain.asked());
            same("digest()", real.digest(), plain.digest());
        }
        for (int f = 0; f <= 5; f++) {
            same("findings(" + f + ")", real.findings(f), plain.findings(f));
        }
        return wrong;
    }

    /** Mostly one of the first few ropes, so that calls meet ropes that are there. */
    private int rope() {
        int which = below(30);
        return which == 0 ? -1 : which == 1 ? 12 : which < 6 ? below(12) : below(4);
    }

    private int length(int p) {
        int length = plain.at(p, -1);
        same("at(" + p + ", -1)", real.at(p, -1), length);
        return length;
    }

    private void call() {
        int kind = below(40);
        if (kind < 14) {
            change(kind);
        } else if (kind < 32) {
            look(kind - 14);
        } else {
            seek(kind - 32);
        }
    }

    private void change(int kind) {
        int p = rope();
        switch (kind) {
            case 0: {
                int d = below(12) == 0 ? below(9) - 1 : 2 + below(4);
                same("cube(" + d + ")", real.cube(d), plain.cube(d));
                break;
            }
            case 1: {
                int k = below(8) == 0 ? below(6) - 1 : 1 + below(3);
                same("spread(" + k + ")", real.spread(k), plain.spread(k));
                break;
            }
            case 2: case 3: {
                int corner = below(10) == 0 ? below(70) - 3 : below(1 << plain.many(0));
                // Barred corners stop classes(), so many runs have none.
                boolean is = run % 2 == 0 && below(3) == 0;
                same("bar(" + corner + ", " + is + ")", real.bar(corner, is), plain.bar(corner, is));
                same("barred()", real.barred(), plain.barred());
                break;
            }
            case 4:
                same("word(" + p + ")", real.word(p), plain.word(p));
                break;
            case 5: case 6: case 7: case 8: {
                int way = below(15) == 0 ? below(9) - 1 : below(plain.many(0));
                same("step(" + p + ", " + way + ")", real.step(p, way), plain.step(p, way));
                break;
            }
            case 9: {
                int n = below(6) == 0 ? below(70) - 3 : length(p) - below(3);
                same("cut(" + p + ", " + n + ")", real.cut(p, n), plain.cut(p, n));
                break;
            }
            case 10:
                if (below(3) == 0) {
                    same("tear(" + p + ")", real.tear(p), plain.tear(p));
                }
                break;
            case 11:
                turnAbout(p, rope());
                break;
            default: {
                int i = below(6) - 1;
                int n = below(12) == 0 ? below(70) - 2 : below(8) - 1;
                int to = rope();
                same("join(" + p + ", " + i + ", " + n + ", " + to + ")", real.join(p, i, n, to), plain.join(p, i, n, to));
            }
        }
    }

    /** Rope q becomes rope p begun at another place, perhaps backward, its ways moved: so rings stay rings. */
    private void turnAbout(int p, int q) {
        int n = length(p);
        if (n < 1 || p == q) {
            return;
        }
        int from = below(n);
        int move = below(plain.many(0));
        boolean backward = below(2) == 0;
        same("word(" + q + ")", real.word(q), plain.word(q));
        for (int s = 0; s < n; s++) {
            int way = plain.at(p, (from + (backward ? n - s : s)) % n);
            int moved = way < plain.many(0) ? (way + move) % plain.many(0) : way;
            same("step(" + q + ", " + moved + ")", real.step(q, moved), plain.step(q, moved));
        }
        same("alike(" + p + ", " + q + ")", real.alike(p, q), plain.alike(p, q));
    }

    private void look(int kind) {
        int p = rope();
        int i = below(10) == 0 ? below(80) - 5 : below(10);
        switch (kind) {
            case 0: case 1:
                same("at(" + p + ", " + i + ")", real.at(p, i), plain.at(p, i));
                break;
            case 2: case 3:
                same("kind(" + p + ")", real.kind(p), plain.kind(p));
                break;
            case 4: case 5:
                same("corner(" + p + ", " + i + ")", real.corner(p, i), plain.corner(p, i));
                break;
            case 6: case 7: {
                int what = below(12) == 0 ? below(4) - 1 : below(2);
                same("fault(" + p + ", " + what + ")", real.fault(p, what), plain.fault(p, what));
                break;
            }
            case 8:
                same("open(" + p + ")", real.open(p), plain.open(p));
                break;
            case 9: case 10: {
                int corner = below(10) == 0 ? below(70) - 3 : below(1 << plain.many(0));
                same("read(" + p + ", " + corner + ")", real.read(p, corner), plain.read(p, corner));
                break;
            }
            case 11:
                same("far(" + p + ")", real.far(p), plain.far(p));
                break;
            case 12: case 13: {
                int q = rope();
                same("alike(" + p + ", " + q + ")", real.alike(p, q), plain.alike(p, q));
                break;
            }
            case 14: case 15:
                same("least(" + p + ", " + i + ")", real.least(p, i), plain.least(p, i));
                break;
            case 16:
                same("turns(" + p + ")", real.turns(p), plain.turns(p));
                break;
            default: {
                int what = below(6) - 1;
                same("many(" + what + ")", real.many(what), plain.many(what));
            }
        }
    }

    private void seek(int kind) {
        int p = rope();
        boolean ring = below(2) == 0;
        switch (kind) {
            case 0: case 1: case 2: {
                int n = below(15) == 0 ? 20000 + below(3) : below(100) - 1;
                // The plain one is slow with many corners.
                int most = plain.many(0) > 4 ? Math.min(n, 300) : n;
                same("longest(" + p + ", " + ring + ", " + most + ")", real.longest(p, ring, most), plain.longest(p, ring, most));
                break;
            }
            case 3: case 4: {
                int steps = steps();
                same("count(" + ring + ", " + steps + ")", real.count(ring, steps), plain.count(ring, steps));
                break;
            }
            case 5: {
                int steps = steps();
                same("classes(" + ring + ", " + steps + ")", real.classes(ring, steps), plain.classes(ring, steps));
                break;
            }
            default: {
                int i = below(8) - 1;
                same("classOf(" + i + ", " + p + ")", real.classOf(i, p), plain.classOf(i, p));
            }
        }
    }

    private int steps() {
        if (below(15) == 0) {
            return below(2) == 0 ? -1 : 65;
        }
        return below(plain.many(0) > 4 ? 6 : 9);
    }

    /** Each cube and spread: the longest and all lengths, as far as the plain one can go. */
    private static int bigSeekings() {
        int wrong = 0;
        for (int d = 1; d <= 6; d++) {
            for (int k = 1; k <= 3; k++) {
                for (int form = 0; form < 4; form++) {
                    ModelTest test = new ModelTest(1000 + 100 * d + 10 * k + form);
                    test.seekBig(d, k, form % 2 == 1, form >= 2);
                    wrong += test.wrong;
                }
            }
        }
        return wrong;
    }

    private void seekBig(int d, int k, boolean ring, boolean bar) {
        same("cube(" + d + ")", real.cube(d), plain.cube(d));
        same("spread(" + k + ")", real.spread(k), plain.spread(k));
        if (bar) {
            int corner = (1 << d) - 2;
            same("bar(" + corner + ", true)", real.bar(corner, true), plain.bar(corner, true));
        }
        int most = d > 4 ? 3000 : 20000;
        same("longest(0, " + ring + ", " + most + ")", real.longest(0, ring, most), plain.longest(0, ring, most));
        same("tries()", real.tries(), plain.tries());
        same("digest()", real.digest(), plain.digest());
        for (int steps = 0; steps <= 8; steps++) {
            same("count(" + ring + ", " + steps + ")", real.count(ring, steps), plain.count(ring, steps));
            same("tries()", real.tries(), plain.tries());
            same("asked()", real.asked(), plain.asked());
            same("classes(" + ring + ", " + steps + ")", real.classes(ring, steps), plain.classes(ring, steps));
            same("tries()", real.tries(), plain.tries());
            same("asked()", real.asked(), plain.asked());
            for (int i = 0; i <= 200; i++) {
                same("classOf(" + i + ", 1)", real.classOf(i, 1), plain.classOf(i, 1));
                same("digest()", real.digest(), plain.digest());
            }
            same("kind(1)", real.kind(1), plain.kind(1));
            same("turns(1)", real.turns(1), plain.turns(1));
        }
    }
}
