/** A drafting table of eight points; ../shared/DOC.md tells its promises by number. */
public final class SnapTable {
    public static final int NONE = -1;

    private static final int POINTS = 8;
    private static final int GUIDES = 4;

    private static final int DONE = 0;
    private static final int NO_SUCH = 1;
    private static final int NO_NUMBER = 2;
    private static final int INFINITE = 3;
    private static final int NOT_AS_TOLD = 4;
    private static final int WOULD_BE_INFINITE = 5;
    private static final int NO_GUIDE_NEAR = 6;

    private final Axis widths = new Axis(false);
    private final Axis heights = new Axis(true);
    private final Trail trail = new Trail();
    /** A guide that is OFF is held as an infinite one, just as it is told. */
    private final long[] guides = new long[GUIDES];
    private int done;
    private int refused;
    private int met;

    public SnapTable() {
        for (int g = 0; g < GUIDES; g++) {
            guides[g] = Bits.INFINITE;
        }
    }

    public int place(int k, long x, int y) {
        long height = Slim.widened(y);
        if (!isPoint(k)) {
            return refuse(NO_SUCH);
        }
        if (Bits.isNone(x) || Bits.isNone(height)) {
            return refuse(NO_NUMBER);
        }
        if (Bits.isInfinite(x) || Bits.isInfinite(height)) {
            return refuse(INFINITE);
        }
        return putWalled(k, x, height);
    }

    public int walls(long left, long right) {
        return fence(widths, left, right);
    }

    public int rails(int low, int high) {
        return fence(heights, Slim.widened(low), Slim.widened(high));
    }

    public int steps(long step, int grain) {
        long slimStep = Slim.widened(grain);
        if (Bits.isNone(step) || Bits.isNone(slimStep)) {
            return refuse(NO_NUMBER);
        }
        if (Bits.isInfinite(step) || Bits.isInfinite(slimStep)) {
            return refuse(INFINITE);
        }
        if (!Bits.isAboveZero(step) || !Bits.isAboveZero(slimStep)) {
            return refuse(NOT_AS_TOLD);
        }
        widths.step = step;
        heights.step = slimStep;
        return finish();
    }

    public int move(int k, long dx, int dy) {
        long rising = Slim.widened(dy);
        if (!isPoint(k)) {
            return refuse(NO_SUCH);
        }
        if (Bits.isNone(dx) || Bits.isNone(rising)) {
            return refuse(NO_NUMBER);
        }
        return putWalled(k, widths.sum(widths.at[k], dx), heights.sum(heights.at[k], rising));
    }

    public int snap(int k, int way) {
        if (!isPoint(k) || !Ways.isWay(way)) {
            return refuse(NO_SUCH);
        }
        return putWalled(k, widths.snapped(widths.at[k], way), heights.snapped(heights.at[k], way));
    }

    public int lean(int k, int j) {
        if (!isPoint(k) || !isPoint(j)) {
            return refuse(NO_SUCH);
        }
        return putWalled(k, Bits.withSignOf(widths.at[k], widths.at[j]),
                Bits.withSignOf(heights.at[k], heights.at[j]));
    }

    public int pull(int k, int j, int way) {
        if (!isPoint(k) || !isPoint(j) || !isEnd(way)) {
            return refuse(NO_SUCH);
        }
        return put(k, Bits.outer(widths.at[k], widths.at[j], way),
                Bits.outer(heights.at[k], heights.at[j], way));
    }

    public int swing(int k, long about) {
        if (!isPoint(k)) {
            return refuse(NO_SUCH);
        }
        if (Bits.isNone(about)) {
            return refuse(NO_NUMBER);
        }
        if (Bits.isInfinite(about)) {
            return refuse(INFINITE);
        }
        long twice = widths.sum(about, about);
        return putWalled(k, widths.sum(twice, Bits.opposite(widths.at[k])), Bits.opposite(heights.at[k]));
    }

    public int guide(int g, long at) {
        if (g < 0 || g >= GUIDES) {
            return refuse(NO_SUCH);
        }
        if (Bits.isNone(at)) {
            return refuse(NO_NUMBER);
        }
        guides[g] = at;
        return finish();
    }

    public int stick(int k, long reach) {
        if (!isPoint(k)) {
            return refuse(NO_SUCH);
        }
        if (Bits.isNone(reach)) {
            return refuse(NO_NUMBER);
        }
        if (Bits.value(reach) < 0) {
            return refuse(NOT_AS_TOLD);
        }
        int g = nearestGuide(widths.at[k]);
        if (g == NONE || widths.apart(widths.at[k], guides[g]) > Bits.value(reach)) {
            return refuse(NO_GUIDE_NEAR);
        }
        return putWalled(k, guides[g], heights.at[k]);
    }

    public int undo() {
        if (trail.size == 0) {
            return NONE;
        }
        int slot = trail.takeLatest();
        int k = trail.points[slot];
        widths.at[k] = trail.widths[slot];
        heights.at[k] = trail.heights[slot];
        return k;
    }

    public long x(int k) {
        return isPoint(k) ? widths.at[k] : 0;
    }

    public int y(int k) {
        return isPoint(k) ? Slim.narrowed(heights.at[k]) : 0;
    }

    public long side(int k) {
        return isPoint(k) ? Bits.unit(widths.at[k]) : 0;
    }

    public int lift(int k) {
        return isPoint(k) ? Slim.narrowed(Bits.unit(heights.at[k])) : 0;
    }

    public long far(int k, int j) {
        return isPoint(k) && isPoint(j) ? Bits.ofSize(distance(k, j)) : 0;
    }

    public int cell(int k) {
        return isPoint(k) ? cellAt(widths.at[k]) : 0;
    }

    public long mark(int k) {
        return isPoint(k) ? markAt(heights.at[k]) : 0;
    }

    public int gap(int k, int j) {
        return isPoint(k) && isPoint(j) ? Math.abs(cellAt(widths.at[k]) - cellAt(widths.at[j])) : 0;
    }

    public long rise(int k, int j) {
        return isPoint(k) && isPoint(j) ? Math.abs(markAt(heights.at[k]) - markAt(heights.at[j])) : 0;
    }

    public long edge(int way) {
        return isEnd(way) ? widths.outermost(way) : 0;
    }

    public int rim(int way) {
        return isEnd(way) ? Slim.narrowed(heights.outermost(way)) : 0;
    }

    public int neighbour(int k) {
        if (!isPoint(k)) {
            return NONE;
        }
        int best = NONE;
        double least = 0;
        for (int j = 0; j < POINTS; j++) {
            if (j != k) {
                double distance = distance(k, j);
                if (best == NONE || distance < least) {
                    best = j;
                    least = distance;
                }
            }
        }
        return best;
    }

    /** Dividing by a step above 0 and making whole keep the order, so the outermost point has the outermost cell. */
    public int column(int way) {
        return isEnd(way) ? cellAt(widths.outermost(way)) : 0;
    }

    public long row(int way) {
        return isEnd(way) ? markAt(heights.outermost(way)) : 0;
    }

    public int count(int what) {
        switch (what) {
            case 0: return done;
            case 1: return refused;
            case 2: return met;
            case 3: return trail.size;
            default: return NONE;
        }
    }

    private static boolean isPoint(int k) {
        return k >= 0 && k < POINTS;
    }

    private static boolean isEnd(int way) {
        return way == Bits.GREATER || way == Bits.LESSER;
    }

    private int refuse(int why) {
        refused++;
        return why;
    }

    private int finish() {
        done++;
        return DONE;
    }

    private int fence(Axis axis, long least, long most) {
        if (Bits.isNone(least) || Bits.isNone(most)) {
            return refuse(NO_NUMBER);
        }
        if (!(Bits.value(least) < Bits.value(most))) {
            return refuse(NOT_AS_TOLD);
        }
        met += axis.wallAll(least, most);
        trail.clear();
        return finish();
    }

    private int putWalled(int k, long x, long y) {
        long walledX = widths.walled(x);
        long walledY = heights.walled(y);
        if (Bits.isInfinite(walledX) || Bits.isInfinite(walledY)) {
            return refuse(WOULD_BE_INFINITE);
        }
        if (walledX != x) {
            met++;
        }
        if (walledY != y) {
            met++;
        }
        return put(k, walledX, walledY);
    }

    private int put(int k, long x, long y) {
        trail.keep(k, widths.at[k], heights.at[k]);
        widths.at[k] = x;
        heights.at[k] = y;
        return finish();
    }

    private int nearestGuide(long x) {
        int best = NONE;
        double least = 0;
        for (int g = 0; g < GUIDES; g++) {
            if (!Bits.isInfinite(guides[g])) {
                double apart = widths.apart(x, guides[g]);
                if (best == NONE || apart < least) {
                    best = g;
                    least = apart;
                }
            }
        }
        return best;
    }

    private double distance(int k, int j) {
        double across = widths.apart(widths.at[k], widths.at[j]);
        double upward = heights.apart(heights.at[k], heights.at[j]);
        return across >= upward ? across : upward;
    }

    /** A cast takes what is beyond the ints, the infinite ones too, to the nearest int. */
    private int cellAt(long x) {
        return (int) Bits.value(widths.wholeSteps(x, Ways.DOWN));
    }

    private long markAt(long y) {
        return (long) Bits.value(heights.wholeSteps(y, Ways.NEAR));
    }

    /** The x's or the y's of all points, with their walls and their step. */
    private static final class Axis {
        /** Whether each operation is rounded to a y. */
        private final boolean slim;
        private final long[] at = new long[POINTS];
        private long least = Bits.SIGN | Bits.INFINITE;
        private long most = Bits.INFINITE;
        /** Always finite and above 0, so that no quotient or product by it is NONE. */
        private long step = Bits.ONE;

        Axis(boolean slim) {
            this.slim = slim;
        }

        long walled(long bits) {
            return Bits.greater(Bits.lesser(bits, most), least);
        }

        /** Sets the walls and answers how many points met one. */
        int wallAll(long newLeast, long newMost) {
            least = newLeast;
            most = newMost;
            int meetings = 0;
            for (int k = 0; k < POINTS; k++) {
                long inside = walled(at[k]);
                if (inside != at[k]) {
                    meetings++;
                }
                at[k] = inside;
            }
            return meetings;
        }

        /** Never called with two infinite ones of which the signs differ. */
        long sum(long a, long b) {
            double left = Bits.value(a);
            double right = Bits.value(b);
            double sum = slim ? (float) left + (float) right : left + right;
            // Only two -0 have the sum -0; a double doesn't show which 0 it is.
            return sum == 0 ? a & b & Bits.SIGN : Bits.of(sum);
        }

        /** The size of the difference of two finite ones. */
        double apart(long a, long b) {
            double left = Bits.value(a);
            double right = Bits.value(b);
            double difference = slim ? (float) left - (float) right : left - right;
            return difference < 0 ? -difference : difference;
        }

        long wholeSteps(long bits, int way) {
            double size = Bits.valueOfSize(bits);
            double unit = Bits.valueOfSize(step);
            double quotient = slim ? (float) size / (float) unit : size / unit;
            return Ways.whole(Bits.withSignOf(Bits.ofSize(quotient), bits), way);
        }

        long snapped(long bits, int way) {
            double size = Bits.valueOfSize(wholeSteps(bits, way));
            double unit = Bits.valueOfSize(step);
            double product = slim ? (float) size * (float) unit : size * unit;
            return Bits.withSignOf(Bits.ofSize(product), bits);
        }

        long outermost(int way) {
            long best = at[0];
            for (int k = 1; k < POINTS; k++) {
                best = Bits.outer(best, at[k], way);
            }
            return best;
        }
    }

    /** The latest acts on points, in a row that goes round. */
    private static final class Trail {
        private static final int KEPT = 16;

        private final int[] points = new int[KEPT];
        private final long[] widths = new long[KEPT];
        private final long[] heights = new long[KEPT];
        private int next;
        private int size;

        void keep(int k, long x, long y) {
            points[next] = k;
            widths[next] = x;
            heights[next] = y;
            next = (next + 1) % KEPT;
            if (size < KEPT) {
                size++;
            }
        }

        /** Only for a trail that isn't empty; answers the slot that the latest one had. */
        int takeLatest() {
            next = (next + KEPT - 1) % KEPT;
            size--;
            return next;
        }

        void clear() {
            size = 0;
        }
    }

    /** The ways to make a number whole. */
    private static final class Ways {
        private static final int DOWN = 0;
        private static final int UP = 1;
        private static final int NEAR = 2;
        private static final int CUT = 3;
        /** 2 to the 52nd: from here on all numbers are whole. */
        private static final long ALL_WHOLE = 0x4330000000000000L;

        static boolean isWay(int way) {
            return way >= DOWN && way <= CUT;
        }

        /** Works on the size, so that a 0 keeps the sign of the number that it came of. */
        static long whole(long bits, int way) {
            if ((bits & Bits.SIZE) >= ALL_WHOLE) {
                return bits;
            }
            double size = Bits.valueOfSize(bits);
            long cut = (long) size;
            boolean grows = growsInSize(size - cut, cut % 2 != 0, bits < 0, way);
            return Bits.withSignOf(Bits.ofSize(grows ? cut + 1 : cut), bits);
        }

        private static boolean growsInSize(double rest, boolean odd, boolean negative, int way) {
            switch (way) {
                case DOWN: return negative && rest > 0;
                case UP: return !negative && rest > 0;
                case NEAR: return rest > 0.5 || rest == 0.5 && odd;
                default: return false;
            }
        }
    }

    /** Numbers by the bits of an x. A y is held as the x of the same worth, so that both share this. */
    private static final class Bits {
        private static final long SIGN = 0x8000000000000000L;
        private static final long SIZE = 0x7fffffffffffffffL;
        private static final long INFINITE = 0x7ff0000000000000L;
        private static final long ONE = 0x3ff0000000000000L;
        private static final int FRACTION = 52;
        private static final int BIAS = 1023;
        private static final int LEAST_POWER = -1022;

        /** The ways of pull, edge, rim, column and row. */
        private static final int GREATER = 0;
        private static final int LESSER = 1;

        static boolean isNone(long bits) {
            return (bits & SIZE) > INFINITE;
        }

        static boolean isInfinite(long bits) {
            return (bits & SIZE) == INFINITE;
        }

        static boolean isAboveZero(long bits) {
            return bits > 0;
        }

        static long opposite(long bits) {
            return bits ^ SIGN;
        }

        static long withSignOf(long bits, long other) {
            return bits & SIZE | other & SIGN;
        }

        static long unit(long bits) {
            return (bits & SIZE) == 0 ? bits : withSignOf(ONE, bits);
        }

        /** A long that is ordered as the numbers are, -0 below 0. */
        private static long rank(long bits) {
            return bits < 0 ? bits ^ SIZE : bits;
        }

        static long lesser(long a, long b) {
            return rank(a) <= rank(b) ? a : b;
        }

        static long greater(long a, long b) {
            return rank(a) >= rank(b) ? a : b;
        }

        static long outer(long a, long b, int way) {
            return way == GREATER ? greater(a, b) : lesser(a, b);
        }

        /** Not for NONE. */
        static double value(long bits) {
            double size = valueOfSize(bits);
            return bits < 0 ? -size : size;
        }

        /** Built by powers of two, all exact, as the library's way from bits to a double isn't ours to use. */
        static double valueOfSize(long bits) {
            if (isInfinite(bits)) {
                return Powers.beyondAll();
            }
            int exponent = (int) ((bits & SIZE) >>> FRACTION);
            double fraction = (bits & (1L << FRACTION) - 1) * 0x1p-52;
            return exponent == 0 ? Powers.scaled(fraction, LEAST_POWER) : Powers.scaled(1 + fraction, exponent - BIAS);
        }

        /** Of a 0 the sign is lost. */
        static long of(double value) {
            return value < 0 ? SIGN | ofSize(-value) : ofSize(value);
        }

        static long ofSize(double size) {
            if (size == Powers.beyondAll()) {
                return INFINITE;
            }
            int power = size >= 1 ? Powers.floorFromOne(size) : Powers.floorBelowOne(size, LEAST_POWER);
            // The leading 1 of the digits carries into the exponent; a number below all those that have one lacks it.
            long digits = (long) (Powers.scaled(size, -power) * 0x1p52);
            return ((long) (power - LEAST_POWER) << FRACTION) + digits;
        }
    }

    /** The way from the bits of a y to those of the x of the same worth, and back. */
    private static final class Slim {
        private static final int SIZE = 0x7fffffff;
        private static final int INFINITE = 0x7f800000;
        /** The least size, as a y and as an x, below which a y has fewer digits. */
        private static final int FULL = 0x00800000;
        private static final long FULL_WIDE = 0x3810000000000000L;
        private static final int FEWER_DIGITS = 29;
        private static final long MORE_BIAS = 896L << 52;

        static long widened(int bits) {
            long sign = bits < 0 ? Bits.SIGN : 0;
            int size = bits & SIZE;
            if (size >= INFINITE) {
                // What is NONE as a y stays above the infinite one, and so NONE.
                return sign | Bits.INFINITE + (size - INFINITE);
            }
            if (size < FULL) {
                return sign | Bits.ofSize(size * 0x1p-149);
            }
            return sign | ((long) size << FEWER_DIGITS) + MORE_BIAS;
        }

        /** Only for finite ones that are a y's. */
        static int narrowed(long bits) {
            int sign = bits < 0 ? ~SIZE : 0;
            long size = bits & Bits.SIZE;
            if (size < FULL_WIDE) {
                return sign | (int) (Bits.valueOfSize(size) * 0x1p149);
            }
            return sign | (int) (size - MORE_BIAS >>> FEWER_DIGITS);
        }
    }

    /** Powers of two, by leaps of 512, 256 .. 1 in the exponent. */
    private static final class Powers {
        private static final int LEAPS = 10;

        /** 2 to the power of 2 to the power of i. */
        private static double leap(int i) {
            switch (i) {
                case 0: return 0x1p1;
                case 1: return 0x1p2;
                case 2: return 0x1p4;
                case 3: return 0x1p8;
                case 4: return 0x1p16;
                case 5: return 0x1p32;
                case 6: return 0x1p64;
                case 7: return 0x1p128;
                case 8: return 0x1p256;
                default: return 0x1p512;
            }
        }

        static double beyondAll() {
            return 0x1p1023 * 2;
        }

        /** The value times 2 to the power of by, which is from -1023 to 1023. */
        static double scaled(double value, int by) {
            int rest = by < 0 ? -by : by;
            double scaled = value;
            for (int i = 0; i < LEAPS; i++) {
                if ((rest >> i & 1) != 0) {
                    scaled = by < 0 ? scaled / leap(i) : scaled * leap(i);
                }
            }
            return scaled;
        }

        /** The exponent of the greatest power of two that isn't above a finite size from 1 on. */
        static int floorFromOne(double size) {
            int power = 0;
            double rest = size;
            for (int i = LEAPS - 1; i >= 0; i--) {
                if (rest >= leap(i)) {
                    rest = rest / leap(i);
                    power += 1 << i;
                }
            }
            return power;
        }

        /** The same for a size below 1, but never below least. */
        static int floorBelowOne(double size, int least) {
            int power = 0;
            double rest = size;
            for (int i = LEAPS - 1; i >= 0; i--) {
                if (power - (1 << i) >= least && rest * leap(i) < 2) {
                    rest = rest * leap(i);
                    power -= 1 << i;
                }
            }
            return power;
        }
    }
}
