import java.lang.reflect.Method;
import java.lang.reflect.Modifier;
import java.util.Arrays;
import java.util.Comparator;

/** What the tests that go by the document's words share: one table at a time, and numbers by their bits. */
abstract class Desk {
    static final double INF = Double.POSITIVE_INFINITY;
    static final float INFF = Float.POSITIVE_INFINITY;
    static final double TINY = Double.MIN_VALUE;
    static final float TINYF = Float.MIN_VALUE;
    static final double HUGE = Double.MAX_VALUE;
    static final float HUGEF = Float.MAX_VALUE;
    static final int NONE = SnapTable.NONE;
    static final int[] NO_POINTS = {-1, 8, 9, Integer.MIN_VALUE, Integer.MAX_VALUE};
    static final int[] NO_ENDS = {-1, 2, 3, Integer.MIN_VALUE, Integer.MAX_VALUE};
    static final long[] NO_XS = {
        0x7ff8000000000000L, 0x7ff0000000000001L, 0xfff0000000000001L, -1L, Long.MAX_VALUE,
    };
    static final int[] NO_YS = {0x7fc00000, 0x7f800001, 0xff800001, -1, Integer.MAX_VALUE};

    static final Check CHECK = new Check();

    static SnapTable t = new SnapTable();

    /** Calls each test of a class, so that none can be forgotten, and ends the program. */
    static void runAll(Class<? extends Desk> tests) throws ReflectiveOperationException {
        Method[] methods = tests.getDeclaredMethods();
        Arrays.sort(methods, Comparator.comparing(Method::getName));
        for (Method method : methods) {
            if (method.getParameterCount() == 0 && Modifier.isStatic(method.getModifiers())) {
                method.setAccessible(true);
                method.invoke(null);
            }
        }
        CHECK.end();
    }

    static long b(double x) {
        return Double.doubleToRawLongBits(x);
    }

    static int f(double y) {
        return Float.floatToRawIntBits((float) y);
    }

    static void fresh(String about) {
        CHECK.about(about);
        t = new SnapTable();
    }

    static void due(String call, long answer, long due) {
        CHECK.due(call, answer, due);
    }

    static void done(String call, int answer) {
        CHECK.due(call, answer, 0);
    }

    static void at(int k, double x, double y) {
        CHECK.due("x(" + k + ") beside " + x, t.x(k), b(x));
        CHECK.due("y(" + k + ") beside " + y, t.y(k), f(y));
    }

    static void put(int k, double x, double y) {
        done("place " + k + " " + x + " " + y, t.place(k, b(x), f(y)));
    }

    static void counts(int acts, int refusals, int meetings, int trail) {
        CHECK.due("count(0)", t.count(0), acts);
        CHECK.due("count(1)", t.count(1), refusals);
        CHECK.due("count(2)", t.count(2), meetings);
        CHECK.due("count(3)", t.count(3), trail);
    }
}
