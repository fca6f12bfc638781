import java.io.IOException;
import java.lang.reflect.Field;
import java.lang.reflect.Method;
import java.lang.reflect.Modifier;
import java.nio.file.Files;
import java.nio.file.Path;
import java.util.Arrays;
import java.util.List;
import java.util.Map;
import java.util.TreeMap;
import java.util.TreeSet;
import java.util.regex.Matcher;
import java.util.regex.Pattern;

/** That what README.md tells of the class is so: its example, its tables of calls, of constants and of findings. */
public final class ReadmeTest extends Checks {
    private static final Pattern EXAMPLE = Pattern.compile("x\\.(\\w+\\(.*?\\)); +// (-?\\d+).*");
    private static final Pattern CALL_ROW = Pattern.compile("\\| `(\\w+)\\((.*?)\\)` \\| .* \\|(.*)\\|");
    private static final Pattern CONSTANT_ROW = Pattern.compile("\\| `([A-Z]+)` \\| (-\\d) \\| .* \\|");
    private static final Pattern FINDING_ROW = Pattern.compile("\\| (\\d) \\| ([A-Z]+) \\| .* \\|");
    private static final String[] NUMBERS = {"-1", "0", "1", "2", "6", "12", "64"};
    private static final String[] FLAGS = {"false", "true"};

    public static void main(String[] args) throws IOException {
        List<String> lines = Files.readAllLines(Path.of("README.md"));
        example(lines);
        constants(lines);
        findingNames(lines);
        calls(lines);
        end();
    }

    private static void example(List<String> lines) {
        about("README: the example");
        CubeSnakes x = new CubeSnakes();
        int calls = 0;
        for (String line : lines) {
            if (!line.startsWith("x.")) {
                continue;
            }
            Matcher row = EXAMPLE.matcher(line);
            due("a call and its answer: " + line, row.matches() ? 1 : 0, 1);
            if (row.matches()) {
                due(x, row.group(1), Long.parseLong(row.group(2)));
                calls++;
            }
        }
        due("calls in the example", calls, 14);
    }

    private static void constants(List<String> lines) {
        about("README: the constants");
        Map<String, String> told = new TreeMap<>();
        for (String line : lines) {
            Matcher row = CONSTANT_ROW.matcher(line);
            if (row.matches()) {
                told.put(row.group(1), row.group(2));
            }
        }
        Map<String, String> due = new TreeMap<>();
        for (Field field : CubeSnakes.class.getFields()) {
            due.put(field.getName(), valueOf(field));
        }
        same(told.toString(), due.toString());
    }

    private static String valueOf(Field constant) {
        try {
            return String.valueOf(constant.getInt(null));
        } catch (IllegalAccessException e) {
            throw new IllegalStateException(e);
        }
    }

    private static void findingNames(List<String> lines) {
        about("README: the findings");
        StringBuilder told = new StringBuilder();
        for (String line : lines) {
            Matcher row = FINDING_ROW.matcher(line);
            if (row.matches()) {
                told.append(row.group(1)).append(' ').append(row.group(2)).append(' ');
            }
        }
        same(told.toString(), "1 NOTHING 2 BEYOND 3 UNLIKE 4 SIZE ");
    }

    private static void calls(List<String> lines) {
        Map<String, Method> methods = new TreeMap<>();
        for (Method method : CubeSnakes.class.getDeclaredMethods()) {
            if (Modifier.isPublic(method.getModifiers())) {
                methods.put(method.getName(), method);
            }
        }
        int rows = 0;
        for (String line : lines) {
            Matcher row = CALL_ROW.matcher(line);
            if (row.matches()) {
                rows++;
                call(methods.remove(row.group(1)), row.group(1), names(row.group(2)), names(row.group(3)));
            }
        }
        about("README: each call has a row, and one alone");
        due("rows", rows, 29);
        same(methods.keySet().toString(), "[]");
    }

    private static List<String> names(String row) {
        return row.isBlank() ? List.of() : Arrays.asList(row.trim().split(", "));
    }

    private static void call(Method method, String name, List<String> parameters, List<String> refusals) {
        about("README: " + name);
        if (method == null) {
            due("there is a call " + name + " without a row yet", 0, 1);
            return;
        }
        due("how many it takes", parameters.size(), method.getParameterCount());
        TreeSet<String> met = new TreeSet<>();
        tryAll(method, "", 0, met);
        same(met.toString(), new TreeSet<>(refusals).toString());
    }

    /** Makes the call with all of these numbers, in each state, and gathers by what it is refused. */
    private static void tryAll(Method method, String begun, int parameter, TreeSet<String> met) {
        if (parameter == method.getParameterCount()) {
            String call = method.getName() + "(" + begun + ")";
            for (int state = 0; state < 3; state++) {
                gather(inState(state), call, met);
            }
            return;
        }
        boolean isFlag = method.getParameterTypes()[parameter] == boolean.class;
        for (String word : isFlag ? FLAGS : NUMBERS) {
            tryAll(method, begun + (parameter > 0 ? ", " : "") + word, parameter + 1, met);
        }
    }

    private static CubeSnakes inState(int state) {
        int d = state == 0 ? 3 : 6;
        CubeSnakes x = with(d, d == 3 ? 2 : 1, "012", "012012", "0".repeat(64));
        if (state == 2) {
            x.bar(0, true);
        }
        return x;
    }

    private static void gather(CubeSnakes x, String call, TreeSet<String> met) {
        long answer = ask(x, call);
        boolean isAnyNumber = call.equals("barred()") || call.equals("digest()");
        boolean isSnake = call.startsWith("fault(") && answer == NONE;
        if (answer >= 0 || answer <= -10 || isAnyNumber || isSnake) {
            return;
        }
        met.add(answer == FINDING ? nameOfFinding(x.finding()) : nameOf(answer));
    }

    private static String nameOfFinding(int finding) {
        String[] names = {"no finding", "NOTHING", "BEYOND", "UNLIKE", "SIZE"};
        return names[finding];
    }

    private static String nameOf(long answer) {
        for (Field constant : CubeSnakes.class.getFields()) {
            if (valueOf(constant).equals(String.valueOf(answer))) {
                return constant.getName();
            }
        }
        return "no constant: " + answer;
    }

    private static void same(String told, String due) {
        due("told is " + told + ", due is " + due, told.equals(due) ? 1 : 0, 1);
    }
}
