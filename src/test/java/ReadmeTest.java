import java.io.IOException;
import java.lang.reflect.Method;
import java.lang.reflect.Modifier;
import java.nio.file.Files;
import java.nio.file.Path;
import java.util.List;
import java.util.Map;
import java.util.TreeMap;
import java.util.TreeSet;
import java.util.regex.Matcher;
import java.util.regex.Pattern;

/** What README.md tells of the class is so: its example, its calls and the refusals of each act. */
public final class ReadmeTest extends Desk {
    private static final double[] XS = {Double.NaN, INF, -INF, HUGE, -HUGE, TINY, 1, -1, 0.0};
    private static final float[] YS = {Float.NaN, INFF, -INFF, HUGEF, -HUGEF, TINYF, 1, -1, 0};
    /** Points, guides and ways that there are, and such as there aren't. */
    private static final int[] WHICH = {-1, 0, 1, 2, 3, 4, 8};

    private static final Map<String, TreeSet<Integer>> REFUSALS = new TreeMap<>();

    public static void main(String[] args) throws ReflectiveOperationException, IOException {
        List<String> lines = Files.readAllLines(Path.of("README.md"));
        example(lines);
        everyCall(lines);
        refusals(lines);
        CHECK.end();
    }

    private static void example(List<String> lines) {
        fresh("the example of README.md");
        told(lines, "table.walls(Double.doubleToRawLongBits(0.0), Double.doubleToRawLongBits(10.0));", "0",
                t.walls(b(0.0), b(10.0)));
        told(lines, "table.place(3, Double.doubleToRawLongBits(12.5), Float.floatToRawIntBits(-2f));", "0",
                t.place(3, b(12.5), f(-2)));
        told(lines, "Double.longBitsToDouble(table.x(3));", "10.0", Double.longBitsToDouble(t.x(3)));
        told(lines, "Float.intBitsToFloat(table.y(3));", "-2.0", Float.intBitsToFloat(t.y(3)));
        told(lines, "table.place(8, 0L, 0);", "1", t.place(8, 0L, 0));
        told(lines, "table.count(2);", "1", t.count(2));
        told(lines, "table.undo();", "3", t.undo());
        told(lines, "Double.longBitsToDouble(table.x(3));", "0.0", Double.longBitsToDouble(t.x(3)));
    }

    /** The line stands there with an answer, and that is the one that the class gives. */
    private static void told(List<String> lines, String call, String answer, Object got) {
        Pattern row = Pattern.compile(Pattern.quote(call) + " +// " + Pattern.quote(answer) + "(: .*)?");
        CHECK.due(call + " is told with " + answer, lines.stream().anyMatch(row.asMatchPredicate()));
        CHECK.due(call + " answers " + got, got.toString().equals(answer));
    }

    private static void everyCall(List<String> lines) {
        fresh("the calls in README.md");
        String text = String.join("\n", lines);
        for (Method method : SnapTable.class.getDeclaredMethods()) {
            if (Modifier.isPublic(method.getModifiers())) {
                Matcher call = Pattern.compile("`" + method.getName() + "\\(([^)]*)\\)`").matcher(text);
                boolean found = call.find();
                CHECK.due(method.getName() + " is told", found);
                int told = !found || call.group(1).isEmpty() ? 0 : call.group(1).split(", ").length;
                CHECK.due(method.getName() + " and its arguments", told, method.getParameterCount());
            }
        }
    }

    private static void refusals(List<String> lines) {
        fresh("the refusals in README.md");
        for (int which : WHICH) {
            for (int x = 0; x < XS.length; x++) {
                for (int y = 0; y < YS.length; y++) {
                    collect(which, b(XS[x]), f(YS[y]));
                }
            }
        }
        Pattern row = Pattern.compile("\\| `(\\w+)\\([^|]*\\| [^|]* \\| ([1-6 ]+) \\|");
        int rows = 0;
        for (String line : lines) {
            Matcher act = row.matcher(line);
            if (act.matches()) {
                rows++;
                String seen = String.valueOf(REFUSALS.get(act.group(1))).replaceAll("[\\[\\],]", "");
                CHECK.due(act.group(1) + " is refused with " + seen, seen.equals(act.group(2)));
            }
        }
        CHECK.due("acts in the table", rows, REFUSALS.size());
    }

    /** A point and a step for which what is beyond all numbers is near, and a guide that isn't. */
    private static void far() {
        t = new SnapTable();
        put(0, HUGE, HUGEF);
        done("steps", t.steps(b(TINY), f(1)));
        done("guide", t.guide(0, b(5)));
    }

    private static void collect(int which, long x, int y) {
        far();
        saw("place", t.place(which, x, y));
        saw("move", t.move(which, x, y));
        saw("swing", t.swing(which, x));
        saw("stick", t.stick(which, x));
        saw("guide", t.guide(which, x));
        far();
        saw("snap", t.snap(which, 0));
        saw("snap", t.snap(0, which));
        saw("lean", t.lean(which, 0));
        saw("lean", t.lean(0, which));
        saw("pull", t.pull(which, 0, 0));
        saw("pull", t.pull(0, which, 1));
        saw("pull", t.pull(0, 1, which));
        saw("steps", t.steps(x, y));
        far();
        saw("walls", t.walls(x, b(1)));
        saw("walls", t.walls(b(1), x));
        saw("rails", t.rails(y, f(1)));
        saw("rails", t.rails(f(1), y));
    }

    private static void saw(String act, int answer) {
        TreeSet<Integer> seen = REFUSALS.computeIfAbsent(act, name -> new TreeSet<>());
        if (answer != 0) {
            seen.add(answer);
        }
    }
}
