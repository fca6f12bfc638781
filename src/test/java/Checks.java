import java.lang.reflect.InvocationTargetException;
import java.lang.reflect.Method;
import java.util.HashMap;
import java.util.Map;

/** What the tests have in common: calls written as texts, what is due, and what a refused call leaves as it was. */
abstract class Checks {
    static final int NOTHING = 1, BEYOND = 2, UNLIKE = 3, SIZE = 4;
    static final int LEAST = Integer.MIN_VALUE, MOST = Integer.MAX_VALUE;
    static final int BAD = -1, FULL = -2, FINDING = -3, STATE = -4, SPENT = -6, NONE = -9;

    private static final Map<String, Method> CALLS = calls();
    private static int wrong = 0;
    private static int sentences = 0;
    private static String sentence = "";

    private static Map<String, Method> calls() {
        Map<String, Method> calls = new HashMap<>();
        for (Method method : CubeSnakes.class.getMethods()) {
            if (method.getDeclaringClass() == CubeSnakes.class) {
                calls.put(method.getName(), method);
            }
        }
        return calls;
    }

    /** The checks that come next are about this sentence of the document. */
    static void about(String words) {
        sentence = words;
        sentences++;
    }

    static void due(String call, long got, long want) {
        if (got != want) {
            wrong++;
            System.out.println(sentence + ": " + call + " answered " + got + ", due is " + want);
        }
    }

    /** What an object answers to a call such as "join(0, 1, 2, 3)". */
    static long ask(CubeSnakes x, String call) {
        int open = call.indexOf('(');
        Method method = CALLS.get(call.substring(0, open));
        String inner = call.substring(open + 1, call.length() - 1);
        String[] words = inner.isEmpty() ? new String[0] : inner.split(", ");
        Object[] arguments = new Object[words.length];
        for (int a = 0; a < words.length; a++) {
            boolean isFlag = method.getParameterTypes()[a] == boolean.class;
            arguments[a] = isFlag ? (Object) Boolean.valueOf(words[a]) : (Object) Integer.valueOf(words[a]);
        }
        try {
            return ((Number) method.invoke(x, arguments)).longValue();
        } catch (InvocationTargetException | IllegalAccessException e) {
            throw new IllegalStateException(sentence + ": " + call + " did not answer", e);
        }
    }

    static void due(CubeSnakes x, String call, long want) {
        due(call, ask(x, call), want);
    }

    /** That a call answers this and that nothing that can be seen has changed. */
    static void refused(CubeSnakes x, String call, int want) {
        String before = state(x) + ", tries " + x.tries() + findings(x);
        due(x, call, want);
        same(call, before, state(x) + ", tries " + x.tries() + findings(x));
    }

    /** That a call is BAD with each of these numbers in the place of N. */
    static void allBad(CubeSnakes x, String call, int... numbers) {
        for (int number : numbers) {
            refused(x, call.replace("N", String.valueOf(number)), BAD);
        }
    }

    /** That a call answers FINDING, tells this one, counts it, and changes nothing else. */
    static void finds(CubeSnakes x, String call, int which) {
        String before = state(x) + ", tries " + x.tries();
        int[] counts = counts(x);
        due(x, call, FINDING);
        same(call, before, state(x) + ", tries " + x.tries());
        due("finding() behind " + call, x.finding(), which);
        for (int f = NOTHING; f <= SIZE; f++) {
            due("findings(" + f + ") behind " + call, x.findings(f), counts[f] + (f == which ? 1 : 0));
        }
    }

    /** That a count() or classes() is spent by so many tries, and changes nothing but tries(). */
    static void spends(CubeSnakes x, String call, int tries) {
        String before = state(x) + findings(x);
        due(x, call, SPENT);
        same(call, before, state(x) + findings(x));
        due("tries() behind " + call, x.tries(), tries);
    }

    private static void same(String call, String before, String behind) {
        if (!before.equals(behind)) {
            wrong++;
            System.out.println(sentence + ": " + call + " changed [" + before + "] to [" + behind + "]");
        }
    }

    /** What can be seen of an object, but for tries() and the findings; digest() stands for the ropes. */
    private static String state(CubeSnakes x) {
        return "ways " + x.many(0) + ", spread " + x.many(1) + ", ropes " + x.many(2) + ", barred " + x.many(3)
            + " " + x.barred() + ", asked " + x.asked() + ", digest " + x.digest();
    }

    private static String findings(CubeSnakes x) {
        String all = ", finding " + x.finding();
        for (int f = NOTHING; f <= SIZE; f++) {
            all += " " + x.findings(f);
        }
        return all;
    }

    private static int[] counts(CubeSnakes x) {
        int[] counts = new int[SIZE + 1];
        for (int f = NOTHING; f <= SIZE; f++) {
            counts[f] = x.findings(f);
        }
        return counts;
    }

    /** An object with ropes 0, 1, .. that have the ways of these texts; "-" for a missing one. */
    static CubeSnakes with(int d, int k, String... ropes) {
        CubeSnakes x = new CubeSnakes();
        x.cube(d);
        x.spread(k);
        for (int p = 0; p < ropes.length; p++) {
            set(x, p, ropes[p]);
        }
        return x;
    }

    static void set(CubeSnakes x, int p, String ways) {
        if (ways.equals("-")) {
            return;
        }
        x.word(p);
        for (int i = 0; i < ways.length(); i++) {
            x.step(p, ways.charAt(i) - '0');
        }
    }

    /** That a rope has these ways. */
    static void rope(CubeSnakes x, int p, String ways) {
        due(x, "at(" + p + ", -1)", ways.length());
        for (int i = 0; i < ways.length(); i++) {
            due(x, "at(" + p + ", " + i + ")", ways.charAt(i) - '0');
        }
    }

    /** That the least form of a rope has these ways. */
    static void least(CubeSnakes x, int p, String ways) {
        for (int i = 0; i < ways.length(); i++) {
            due(x, "least(" + p + ", " + i + ")", ways.charAt(i) - '0');
        }
        finds(x, "least(" + p + ", " + ways.length() + ")", BEYOND);
    }

    static long digestOf(int d, int k, long barred, String... ropes) {
        long h = ((17L * 31 + d) * 31 + k) * 31 + barred;
        for (int p = 0; p < 12; p++) {
            String ways = p < ropes.length ? ropes[p] : "-";
            h = h * 31 + (ways.equals("-") ? -1 : ways.length());
            for (int i = 0; i < ways.length() && !ways.equals("-"); i++) {
                h = h * 31 + (ways.charAt(i) - '0');
            }
        }
        return h;
    }

    /** A ring of 64 steps with the spread 1 (each step turns the lowest bit that a count turns from 0). */
    static String wayThroughAll() {
        String ways = "";
        for (int c = 1; c < 64; c++) {
            ways += Integer.numberOfTrailingZeros(c);
        }
        return ways + "5";
    }

    static void bar(CubeSnakes x, int... corners) {
        for (int corner : corners) {
            x.bar(corner, true);
        }
    }

    /** Tells what was found, and ends the test. */
    static void end() {
        System.out.println(wrong == 0 ? "all answers are as due (" + sentences + " sentences)" : wrong + " are not as due");
        if (wrong != 0) {
            System.exit(1);
        }
    }
}
