import java.util.ArrayDeque;
import java.util.Random;

/**
 * Long runs of calls, the same each time, beside a model of the document that holds doubles and floats and
 * works with the Java library, which the class itself may not use.
 */
public final class ModelTest {
    private static final int RUNS = 6000;
    /** With two looks after each and the last look at everything: no object gets more than 512 calls. */
    private static final int ACTS = 150;

    private static final double[] XS = {
        0, 0.3, 0.5, 1, 1.5, 2, 2.5, 3, 3.5, 7, 10, 0.1, 100, 1e10, 2147483647.0, 2147483648.0, 2147483648.5, 1e19,
        0x1p51 + 0.5, 0x1p51 + 1.5, 0x1p52 - 0.5, 0x1p52, 0x1p52 + 1, 0x1p53, 0x1p62, 0x1p63, 1e300, 1e-300, 0x1p1023,
        0.49999999999999994, 0x1.fffffffffffffp-2,
        Double.MIN_VALUE, 3 * Double.MIN_VALUE, Double.MIN_NORMAL, Double.MAX_VALUE, Double.POSITIVE_INFINITY, Double.NaN,
    };
    private static final float[] YS = {
        0, 0.3f, 0.5f, 1, 1.5f, 2, 2.5f, 3, 3.5f, 7, 10, 0.1f, 100, 1e10f, 2147483648f, 1e19f, 0x1p62f, 0x1p63f,
        0x1p22f + 0.5f, 0x1p22f + 1.5f, 0x1p23f - 0.5f, 0x1p23f, 0x1p23f + 1, 0x1p24f, 1e30f, 1e-30f, 0x1p127f,
        0.49999997f,
        Float.MIN_VALUE, 3 * Float.MIN_VALUE, Float.MIN_NORMAL, Float.MAX_VALUE, Float.POSITIVE_INFINITY, Float.NaN,
    };

    private static final Check CHECK = new Check();

    public static void main(String[] args) {
        for (int seed = 0; seed < RUNS; seed++) {
            new Run(seed).go();
        }
        CHECK.end();
    }

    /** One table and its model, driven by one seed. */
    private static final class Run {
        private final Random random;
        private final SnapTable table = new SnapTable();
        private final Model model = new Model();
        /** 0: numbers are mostly any bits; 1: the edges of XS and YS; 2: small, so that ties and meetings are many. */
        private final int mood;

        Run(int seed) {
            random = new Random(seed);
            mood = seed % 3;
            CHECK.about("run " + seed);
        }

        void go() {
            for (int i = 0; i < ACTS; i++) {
                act();
                look(random.nextInt(16));
                look(random.nextInt(16));
            }
            everything();
        }

        private int point() {
            int any = random.nextInt(40);
            return any == 0 ? -1 : any == 1 ? 8 : any == 2 ? random.nextInt() : any % 8;
        }

        private int small(int to) {
            int any = random.nextInt(30);
            return any == 0 ? -1 : any == 1 ? to : any == 2 ? random.nextInt() : any % to;
        }

        private long x() {
            int any = random.nextInt(20);
            if (mood == 0 && any < 12) {
                return random.nextLong();
            }
            if (mood == 2 && any < 17) {
                return Double.doubleToRawLongBits((random.nextInt(33) - 16) * 0.25 * (random.nextBoolean() ? 1 : -1));
            }
            double x = XS[random.nextInt(XS.length)];
            return Double.doubleToRawLongBits(random.nextBoolean() ? x : -x);
        }

        private int y() {
            int any = random.nextInt(20);
            if (mood == 0 && any < 12) {
                return random.nextInt();
            }
            if (mood == 2 && any < 17) {
                return Float.floatToRawIntBits((random.nextInt(33) - 16) * 0.25f * (random.nextBoolean() ? 1 : -1));
            }
            float y = YS[random.nextInt(YS.length)];
            return Float.floatToRawIntBits(random.nextBoolean() ? y : -y);
        }

        private void act() {
            int k = point();
            int j = point();
            long a = x();
            long b = x();
            int c = y();
            int d = y();
            String told = "(" + k + ", " + j + ", " + a + ", " + b + ", " + c + ", " + d + ") of these ";
            switch (random.nextInt(18)) {
                case 0: case 1: case 2: case 3:
                    CHECK.due(told + "place", table.place(k, a, c), model.place(k, a, c));
                    break;
                case 4: case 5: CHECK.due(told + "move", table.move(k, a, c), model.move(k, a, c)); break;
                case 6: case 7:
                    int way = small(4);
                    CHECK.due(told + "snap " + way, table.snap(k, way), model.snap(k, way));
                    break;
                case 8: CHECK.due(told + "lean", table.lean(k, j), model.lean(k, j)); break;
                case 9:
                    int end = small(2);
                    CHECK.due(told + "pull " + end, table.pull(k, j, end), model.pull(k, j, end));
                    break;
                case 10: case 11: CHECK.due(told + "swing", table.swing(k, a), model.swing(k, a)); break;
                case 12:
                    int g = small(4);
                    CHECK.due(told + "guide " + g, table.guide(g, a), model.guide(g, a));
                    break;
                case 13: case 14: CHECK.due(told + "stick", table.stick(k, a), model.stick(k, a)); break;
                case 15: CHECK.due(told + "steps", table.steps(a, c), model.steps(a, c)); break;
                case 16: CHECK.due(told + "undo", table.undo(), model.undo()); break;
                default: fences(told, a, b, c, d); break;
            }
        }

        private void fences(String told, long a, long b, int c, int d) {
            if (random.nextInt(3) != 0) {
                return;
            }
            if (random.nextBoolean()) {
                CHECK.due(told + "walls", table.walls(a, b), model.walls(a, b));
            } else {
                CHECK.due(told + "rails", table.rails(c, d), model.rails(c, d));
            }
        }

        private void look(int which) {
            int k = point();
            int j = point();
            int end = small(2);
            int what = small(4);
            switch (which) {
                case 0: CHECK.due("x " + k, table.x(k), model.x(k)); break;
                case 1: CHECK.due("y " + k, table.y(k), model.y(k)); break;
                case 2: CHECK.due("side " + k, table.side(k), model.side(k)); break;
                case 3: CHECK.due("lift " + k, table.lift(k), model.lift(k)); break;
                case 4: CHECK.due("far " + k + " " + j, table.far(k, j), model.far(k, j)); break;
                case 5: CHECK.due("cell " + k, table.cell(k), model.cell(k)); break;
                case 6: CHECK.due("mark " + k, table.mark(k), model.mark(k)); break;
                case 7: CHECK.due("gap " + k + " " + j, table.gap(k, j), model.gap(k, j)); break;
                case 8: CHECK.due("rise " + k + " " + j, table.rise(k, j), model.rise(k, j)); break;
                case 9: CHECK.due("edge " + end, table.edge(end), model.edge(end)); break;
                case 10: CHECK.due("rim " + end, table.rim(end), model.rim(end)); break;
                case 11: CHECK.due("neighbour " + k, table.neighbour(k), model.neighbour(k)); break;
                case 12: CHECK.due("column " + end, table.column(end), model.column(end)); break;
                case 13: CHECK.due("row " + end, table.row(end), model.row(end)); break;
                default: CHECK.due("count " + what, table.count(what), model.count(what)); break;
            }
        }

        private void everything() {
            for (int k = 0; k < 8; k++) {
                CHECK.due("x " + k, table.x(k), model.x(k));
                CHECK.due("y " + k, table.y(k), model.y(k));
            }
            for (int what = 0; what < 4; what++) {
                CHECK.due("count " + what, table.count(what), model.count(what));
            }
            for (int i = 0; i < 17; i++) {
                CHECK.due("undo", table.undo(), model.undo());
            }
            for (int k = 0; k < 8; k++) {
                CHECK.due("x " + k, table.x(k), model.x(k));
                CHECK.due("y " + k, table.y(k), model.y(k));
            }
        }
    }

    /** The document's words, one after the other. */
    private static final class Model {
        private final double[] xs = new double[8];
        private final float[] ys = new float[8];
        private double left = Double.NEGATIVE_INFINITY;
        private double right = Double.POSITIVE_INFINITY;
        private float low = Float.NEGATIVE_INFINITY;
        private float high = Float.POSITIVE_INFINITY;
        private double step = 1;
        private float grain = 1;
        private final Double[] guides = new Double[4];
        private final ArrayDeque<double[]> trail = new ArrayDeque<>();
        private final int[] counts = new int[3];

        private static double wide(long bits) {
            return Double.longBitsToDouble(bits);
        }

        private static float slim(int bits) {
            return Float.intBitsToFloat(bits);
        }

        private static boolean point(int k) {
            return k >= 0 && k <= 7;
        }

        private int ended(int code) {
            counts[code == 0 ? 0 : 1]++;
            return code;
        }

        private double walled(double x) {
            return Math.max(Math.min(x, right), left);
        }

        private float walled(float y) {
            return Math.max(Math.min(y, high), low);
        }

        private int set(int k, double x, float y) {
            double newX = walled(x);
            float newY = walled(y);
            if (Double.isInfinite(newX) || Float.isInfinite(newY)) {
                return ended(5);
            }
            counts[2] += Double.compare(x, newX) != 0 ? 1 : 0;
            counts[2] += Float.compare(y, newY) != 0 ? 1 : 0;
            trail.addLast(new double[] {k, xs[k], ys[k]});
            if (trail.size() > 16) {
                trail.removeFirst();
            }
            xs[k] = newX;
            ys[k] = newY;
            return ended(0);
        }

        int place(int k, long a, int b) {
            double x = wide(a);
            float y = slim(b);
            if (!point(k)) {
                return ended(1);
            }
            if (Double.isNaN(x) || Float.isNaN(y)) {
                return ended(2);
            }
            return Double.isInfinite(x) || Float.isInfinite(y) ? ended(3) : set(k, x, y);
        }

        int walls(long a, long b) {
            if (Double.isNaN(wide(a)) || Double.isNaN(wide(b))) {
                return ended(2);
            }
            if (wide(a) >= wide(b)) {
                return ended(4);
            }
            left = wide(a);
            right = wide(b);
            for (int k = 0; k < 8; k++) {
                double was = xs[k];
                xs[k] = walled(was);
                counts[2] += Double.compare(was, xs[k]) != 0 ? 1 : 0;
            }
            trail.clear();
            return ended(0);
        }

        int rails(int a, int b) {
            if (Float.isNaN(slim(a)) || Float.isNaN(slim(b))) {
                return ended(2);
            }
            if (slim(a) >= slim(b)) {
                return ended(4);
            }
            low = slim(a);
            high = slim(b);
            for (int k = 0; k < 8; k++) {
                float was = ys[k];
                ys[k] = walled(was);
                counts[2] += Float.compare(was, ys[k]) != 0 ? 1 : 0;
            }
            trail.clear();
            return ended(0);
        }

        int steps(long a, int b) {
            double x = wide(a);
            float y = slim(b);
            if (Double.isNaN(x) || Float.isNaN(y)) {
                return ended(2);
            }
            if (Double.isInfinite(x) || Float.isInfinite(y)) {
                return ended(3);
            }
            if (x <= 0 || y <= 0) {
                return ended(4);
            }
            step = x;
            grain = y;
            return ended(0);
        }

        int move(int k, long a, int b) {
            if (!point(k)) {
                return ended(1);
            }
            if (Double.isNaN(wide(a)) || Float.isNaN(slim(b))) {
                return ended(2);
            }
            return set(k, xs[k] + wide(a), ys[k] + slim(b));
        }

        private static double whole(double a, int way) {
            switch (way) {
                case 0: return Math.floor(a);
                case 1: return Math.ceil(a);
                case 2: return Math.rint(a);
                default: return Math.copySign(Math.floor(Math.abs(a)), a);
            }
        }

        int snap(int k, int way) {
            if (!point(k) || way < 0 || way > 3) {
                return ended(1);
            }
            return set(k, whole(xs[k] / step, way) * step, (float) whole(ys[k] / grain, way) * grain);
        }

        int lean(int k, int j) {
            return !point(k) || !point(j) ? ended(1)
                    : set(k, Math.copySign(xs[k], xs[j]), Math.copySign(ys[k], ys[j]));
        }

        int pull(int k, int j, int way) {
            if (!point(k) || !point(j) || way < 0 || way > 1) {
                return ended(1);
            }
            return way == 0 ? set(k, Math.max(xs[k], xs[j]), Math.max(ys[k], ys[j]))
                    : set(k, Math.min(xs[k], xs[j]), Math.min(ys[k], ys[j]));
        }

        int swing(int k, long about) {
            double at = wide(about);
            if (!point(k)) {
                return ended(1);
            }
            if (Double.isNaN(at)) {
                return ended(2);
            }
            return Double.isInfinite(at) ? ended(3) : set(k, at + at - xs[k], -ys[k]);
        }

        int guide(int g, long at) {
            if (g < 0 || g > 3) {
                return ended(1);
            }
            if (Double.isNaN(wide(at))) {
                return ended(2);
            }
            guides[g] = Double.isInfinite(wide(at)) ? null : Double.valueOf(wide(at));
            return ended(0);
        }

        int stick(int k, long reach) {
            if (!point(k)) {
                return ended(1);
            }
            if (Double.isNaN(wide(reach))) {
                return ended(2);
            }
            if (wide(reach) < 0) {
                return ended(4);
            }
            Double best = null;
            for (Double guide : guides) {
                if (guide != null && (best == null || Math.abs(xs[k] - guide) < Math.abs(xs[k] - best))) {
                    best = guide;
                }
            }
            return best == null || Math.abs(xs[k] - best) > wide(reach) ? ended(6) : set(k, best, ys[k]);
        }

        int undo() {
            if (trail.isEmpty()) {
                return -1;
            }
            double[] latest = trail.removeLast();
            int k = (int) latest[0];
            xs[k] = latest[1];
            ys[k] = (float) latest[2];
            return k;
        }

        long x(int k) {
            return point(k) ? Double.doubleToRawLongBits(xs[k]) : 0;
        }

        int y(int k) {
            return point(k) ? Float.floatToRawIntBits(ys[k]) : 0;
        }

        long side(int k) {
            return point(k) ? Double.doubleToRawLongBits(Math.signum(xs[k])) : 0;
        }

        int lift(int k) {
            return point(k) ? Float.floatToRawIntBits(Math.signum(ys[k])) : 0;
        }

        private double apart(int k, int j) {
            return Math.max(Math.abs(xs[k] - xs[j]), (double) Math.abs(ys[k] - ys[j]));
        }

        long far(int k, int j) {
            return point(k) && point(j) ? Double.doubleToRawLongBits(apart(k, j)) : 0;
        }

        int cell(int k) {
            return point(k) ? (int) Math.floor(xs[k] / step) : 0;
        }

        long mark(int k) {
            return point(k) ? (long) Math.rint(ys[k] / grain) : 0;
        }

        int gap(int k, int j) {
            return point(k) && point(j) ? Math.abs(cell(k) - cell(j)) : 0;
        }

        long rise(int k, int j) {
            return point(k) && point(j) ? Math.abs(mark(k) - mark(j)) : 0;
        }

        long edge(int way) {
            double best = xs[0];
            for (double x : xs) {
                best = way == 0 ? Math.max(best, x) : Math.min(best, x);
            }
            return way == 0 || way == 1 ? Double.doubleToRawLongBits(best) : 0;
        }

        int rim(int way) {
            float best = ys[0];
            for (float y : ys) {
                best = way == 0 ? Math.max(best, y) : Math.min(best, y);
            }
            return way == 0 || way == 1 ? Float.floatToRawIntBits(best) : 0;
        }

        int neighbour(int k) {
            int best = -1;
            for (int j = 7; point(k) && j >= 0; j--) {
                if (j != k && (best == -1 || apart(k, j) <= apart(k, best))) {
                    best = j;
                }
            }
            return best;
        }

        int column(int way) {
            int best = cell(0);
            for (int k = 1; k < 8; k++) {
                best = way == 0 ? Math.max(best, cell(k)) : Math.min(best, cell(k));
            }
            return way == 0 || way == 1 ? best : 0;
        }

        long row(int way) {
            long best = mark(0);
            for (int k = 1; k < 8; k++) {
                best = way == 0 ? Math.max(best, mark(k)) : Math.min(best, mark(k));
            }
            return way == 0 || way == 1 ? best : 0;
        }

        int count(int what) {
            return what == 3 ? trail.size() : what >= 0 && what < 3 ? counts[what] : -1;
        }
    }
}
