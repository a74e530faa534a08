/** The promises of the document one by one: ordinary inputs, the edges that it names, and wrong inputs. */
public final class PromisesTest extends Desk {
    public static void main(String[] args) throws ReflectiveOperationException {
        runAll(PromisesTest.class);
    }

    private static void promise1() {
        fresh("promise 1");
        counts(0, 0, 0, 0);
        for (int k = 0; k < 8; k++) {
            at(k, 0.0, 0.0);
        }
        CHECK.due("undo", t.undo(), SnapTable.NONE);
        CHECK.due("stick with all guides OFF", t.stick(0, b(INF)), 6);
        put(0, HUGE, Float.MAX_VALUE);
        at(0, HUGE, Float.MAX_VALUE);
        put(0, -HUGE, -Float.MAX_VALUE);
        at(0, -HUGE, -Float.MAX_VALUE);
        put(1, 2.5, 2.75);
        CHECK.due("cell by STEP 1", t.cell(1), 2);
        CHECK.due("mark by GRAIN 1", t.mark(1), 3);
        SnapTable other = new SnapTable();
        CHECK.due("another table's x", other.x(1), 0);
        CHECK.due("another table's count", other.count(0), 0);
    }

    private static void promise2() {
        fresh("promise 2");
        put(7, 1.5, -2.5);
        at(7, 1.5, -2.5);
        put(7, -0.0, -0.0);
        at(7, -0.0, -0.0);
        put(7, TINY, Float.MIN_VALUE);
        at(7, TINY, Float.MIN_VALUE);
        for (int k : NO_POINTS) {
            CHECK.due("place " + k, t.place(k, b(1), f(1)), 1);
            CHECK.due("place 1 ahead of 2", t.place(k, NO_XS[0], NO_YS[0]), 1);
        }
        for (long x : NO_XS) {
            CHECK.due("place NONE " + x, t.place(0, x, f(1)), 2);
            CHECK.due("place 2 ahead of 3", t.place(0, x, f(INF)), 2);
        }
        for (int y : NO_YS) {
            CHECK.due("place NONE " + y, t.place(0, b(1), y), 2);
            CHECK.due("place 2 ahead of 3", t.place(0, b(-INF), y), 2);
        }
        CHECK.due("place infinite x", t.place(0, b(INF), f(1)), 3);
        CHECK.due("place infinite x", t.place(0, b(-INF), f(1)), 3);
        CHECK.due("place infinite y", t.place(0, b(1), f(INF)), 3);
        CHECK.due("place infinite y", t.place(0, b(1), f(-INF)), 3);
        at(0, 0, 0);
        counts(3, 2 * (NO_POINTS.length + NO_XS.length + NO_YS.length) + 4, 0, 3);
        t.walls(b(-1), b(2));
        t.rails(f(-3), f(4));
        CHECK.due("place infinite x between walls", t.place(0, b(INF), f(1)), 3);
        int met = t.count(2);
        put(0, 5, 5);
        at(0, 2, 4);
        CHECK.due("met both", t.count(2), met + 2);
        put(0, -5, -2);
        at(0, -1, -2);
        CHECK.due("met one", t.count(2), met + 3);
        put(0, -1, 4);
        CHECK.due("met none", t.count(2), met + 3);
    }

    private static void promise3() {
        fresh("promise 3");
        put(0, 10, 1);
        put(1, -10, 1);
        put(2, 3, 1);
        done("walls", t.walls(b(-4), b(5)));
        at(0, 5, 1);
        at(1, -4, 1);
        at(2, 3, 1);
        at(3, 0, 0);
        counts(4, 0, 2, 0);
        CHECK.due("undo after walls", t.undo(), SnapTable.NONE);
        CHECK.due("equal walls", t.walls(b(1), b(1)), 4);
        CHECK.due("turned walls", t.walls(b(2), b(1)), 4);
        CHECK.due("infinite equal walls", t.walls(b(INF), b(INF)), 4);
        CHECK.due("infinite equal walls", t.walls(b(-INF), b(-INF)), 4);
        CHECK.due("turned infinite walls", t.walls(b(INF), b(-INF)), 4);
        for (long x : NO_XS) {
            CHECK.due("NONE left", t.walls(x, b(1)), 2);
            CHECK.due("NONE right", t.walls(b(1), x), 2);
        }
        put(0, 10, 1);
        at(0, 5, 1);
        CHECK.due("refused walls leave the trail", t.walls(b(2), b(1)), 4);
        counts(5, 6 + 2 * NO_XS.length, 3, 1);
        done("walls left open", t.walls(b(-INF), b(2)));
        at(0, 2, 1);
        at(1, -4, 1);
        done("walls right open", t.walls(b(1), b(INF)));
        at(0, 2, 1);
        at(1, 1, 1);
        at(7, 1, 0);
        done("walls open", t.walls(b(-INF), b(INF)));
        put(0, 1e300, 1);
        at(0, 1e300, 1);
    }

    private static void promise3Zeros() {
        fresh("promise 3, zeros");
        CHECK.due("walls -0 and 0", t.walls(b(-0.0), b(0.0)), 4);
        CHECK.due("walls 0 and -0", t.walls(b(0.0), b(-0.0)), 4);
        CHECK.due("walls 0 and 0", t.walls(b(0.0), b(0.0)), 4);
        done("walls to -0", t.walls(b(-TINY), b(-0.0)));
        at(0, -0.0, 0);
        CHECK.due("0 met -0", t.count(2), 8);
        done("walls from 0", t.walls(b(0.0), b(TINY)));
        at(0, 0.0, 0);
        CHECK.due("-0 met 0", t.count(2), 16);
        done("walls from -0", t.walls(b(-0.0), b(3)));
        put(0, -0.0, 1);
        at(0, -0.0, 1);
        CHECK.due("0 and -0 in", t.count(2), 16);
        put(0, -TINY, 1);
        at(0, -0.0, 1);
        CHECK.due("met -0", t.count(2), 17);
    }

    private static void promise4() {
        fresh("promise 4");
        put(0, 1, 10);
        put(1, 1, -10);
        done("rails", t.rails(f(-4), f(5)));
        at(0, 1, 5);
        at(1, 1, -4);
        at(2, 0, 0);
        counts(3, 0, 2, 0);
        CHECK.due("equal rails", t.rails(f(1), f(1)), 4);
        CHECK.due("turned rails", t.rails(f(2), f(1)), 4);
        CHECK.due("rails -0 and 0", t.rails(f(-0.0), f(0.0)), 4);
        CHECK.due("rails 0 and -0", t.rails(f(0.0), f(-0.0)), 4);
        CHECK.due("infinite equal rails", t.rails(f(INF), f(INF)), 4);
        for (int y : NO_YS) {
            CHECK.due("NONE low", t.rails(y, f(1)), 2);
            CHECK.due("NONE high", t.rails(f(1), y), 2);
        }
        put(0, 1, 6);
        CHECK.due("refused rails leave the trail", t.count(3), 1);
        done("rails from 0", t.rails(f(0.0), f(INF)));
        at(0, 1, 5);
        at(1, 1, 0.0);
        CHECK.due("trail after rails", t.count(3), 0);
        put(3, -7, -0.0);
        at(3, -7, 0.0);
        done("rails to -0", t.rails(f(-Float.MIN_VALUE), f(-0.0)));
        at(3, -7, -0.0);
        at(0, 1, -0.0);
        done("rails open", t.rails(f(-INF), f(INF)));
        put(0, 1, -Float.MAX_VALUE);
        at(0, 1, -Float.MAX_VALUE);
    }

    private static void promise5() {
        fresh("promise 5");
        put(0, 7, 7);
        done("steps", t.steps(b(2), f(0.5)));
        CHECK.due("cell", t.cell(0), 3);
        CHECK.due("mark", t.mark(0), 14);
        CHECK.due("the trail stays", t.count(3), 1);
        for (double no : new double[] {0.0, -0.0, -1, -TINY}) {
            CHECK.due("step " + no, t.steps(b(no), f(1)), 4);
        }
        for (double no : new double[] {0.0, -0.0, -1, -Float.MIN_VALUE}) {
            CHECK.due("grain " + no, t.steps(b(1), f(no)), 4);
        }
        CHECK.due("3 ahead of 4", t.steps(b(-1), f(INF)), 3);
        CHECK.due("3 ahead of 4", t.steps(b(-INF), f(1)), 3);
        CHECK.due("3 ahead of 4", t.steps(b(INF), f(-1)), 3);
        CHECK.due("3", t.steps(b(1), f(-INF)), 3);
        for (long x : NO_XS) {
            CHECK.due("2 ahead of 3", t.steps(x, f(INF)), 2);
        }
        for (int y : NO_YS) {
            CHECK.due("2 ahead of 3", t.steps(b(INF), y), 2);
        }
        CHECK.due("refused ones leave STEP", t.cell(0), 3);
        CHECK.due("refused ones leave GRAIN", t.mark(0), 14);
        counts(2, 12 + NO_XS.length + NO_YS.length, 0, 1);
        done("least steps", t.steps(b(TINY), f(Float.MIN_VALUE)));
        done("greatest steps", t.steps(b(HUGE), f(Float.MAX_VALUE)));
        CHECK.due("cell", t.cell(0), 0);
    }

    private static void promise6() {
        fresh("promise 6");
        put(0, 1.5, 2.5);
        done("move", t.move(0, b(0.25), f(-4)));
        at(0, 1.75, -1.5);
        put(0, 0.1, 0.1);
        done("move", t.move(0, b(0.2), f(0.2)));
        CHECK.due("double sum", t.x(0), b(0.1 + 0.2));
        CHECK.due("float sum", t.y(0), Float.floatToRawIntBits(0.1f + 0.2f));
        put(0, 0x1p53, 0x1p24);
        done("move", t.move(0, b(1), f(1)));
        at(0, 0x1p53, 0x1p24);
        done("move", t.move(0, b(3), f(3)));
        at(0, 0x1p53 + 4, 0x1p24 + 4);
        put(0, 5 * TINY, 5 * Float.MIN_VALUE);
        done("move", t.move(0, b(-7 * TINY), f(-7 * Float.MIN_VALUE)));
        at(0, -2 * TINY, -2 * Float.MIN_VALUE);
        put(0, 3, -0.0);
        done("move to 0", t.move(0, b(-3), f(-0.0)));
        at(0, 0.0, -0.0);
        done("move 0 by -0", t.move(0, b(-0.0), f(0.0)));
        at(0, 0.0, 0.0);
        put(0, -0.0, -3);
        done("move -0 by -0", t.move(0, b(-0.0), f(3)));
        at(0, -0.0, 0.0);
    }

    private static void promise6Refused() {
        fresh("promise 6, refused");
        for (int k : NO_POINTS) {
            CHECK.due("1 ahead of 2", t.move(k, NO_XS[0], f(1)), 1);
        }
        for (long x : NO_XS) {
            CHECK.due("move NONE", t.move(0, x, f(1)), 2);
        }
        for (int y : NO_YS) {
            CHECK.due("move NONE", t.move(0, b(INF), y), 2);
        }
        CHECK.due("move infinite x", t.move(0, b(INF), f(1)), 5);
        CHECK.due("move infinite y", t.move(0, b(1), f(-INF)), 5);
        put(0, HUGE, Float.MAX_VALUE);
        CHECK.due("move over", t.move(0, b(HUGE), f(0)), 5);
        CHECK.due("move over", t.move(0, b(0), f(Float.MAX_VALUE)), 5);
        at(0, HUGE, Float.MAX_VALUE);
        done("walls", t.walls(b(-INF), b(7)));
        CHECK.due("5 without a meeting", t.move(0, b(INF), f(INF)), 5);
        CHECK.due("5 the other way", t.move(0, b(-INF), f(0)), 5);
        counts(2, NO_POINTS.length + NO_XS.length + NO_YS.length + 6, 1, 0);
        done("rails", t.rails(f(-2), f(INF)));
        done("move by infinite ones", t.move(0, b(INF), f(-INF)));
        at(0, 7, -2);
        counts(4, NO_POINTS.length + NO_XS.length + NO_YS.length + 6, 3, 1);
        CHECK.due("undo", t.undo(), 0);
        at(0, 7, Float.MAX_VALUE);
    }

    private static void snapped(int way, double x, double y, double dueX, double dueY) {
        put(0, x, y);
        done("snap way " + way + " of " + x, t.snap(0, way));
        at(0, dueX, dueY);
    }

    private static void promise7() {
        fresh("promise 7");
        snapped(0, 2.5, -2.5, 2, -3);
        snapped(1, 2.5, -2.5, 3, -2);
        snapped(2, 2.5, -2.5, 2, -2);
        snapped(3, 2.5, -2.5, 2, -2);
        snapped(2, 3.5, -3.5, 4, -4);
        snapped(2, 2.75, -2.25, 3, -2);
        snapped(2, -2.75, 2.25, -3, 2);
        snapped(3, -2.75, 2.75, -2, 2);
        snapped(0, -2.75, 2.75, -3, 2);
        snapped(1, -2.75, 2.75, -2, 3);
        for (int way = 0; way < 4; way++) {
            snapped(way, 5, -5, 5, -5);
            snapped(way, 0x1p52 + 1, -(0x1p23 + 1), 0x1p52 + 1, -(0x1p23 + 1));
            snapped(way, 0x1p60, 0x1p60, 0x1p60, 0x1p60);
            snapped(way, -HUGE, Float.MAX_VALUE, -HUGE, Float.MAX_VALUE);
        }
        snapped(2, 0x1p51 + 0.5, 0x1p22 + 0.5, 0x1p51, 0x1p22);
        snapped(2, 0x1p51 + 1.5, 0x1p22 + 1.5, 0x1p51 + 2, 0x1p22 + 2);
        snapped(1, 0x1p52 - 0.5, 0x1p23 - 0.5, 0x1p52, 0x1p23);
        snapped(2, 0x1.fffffffffffffp-2, 0x1.fffffep-2, 0, 0);
        done("steps", t.steps(b(0.25), f(3)));
        snapped(2, 1.4, 4, 1.5, 3);
        snapped(0, 1.4, 5.9, 1.25, 3);
        snapped(1, 1.4, 3.1, 1.5, 6);
    }

    private static void promise7Signs() {
        fresh("promise 7, signs of 0");
        for (int way = 0; way < 4; way++) {
            snapped(way, 0.0, -0.0, 0.0, -0.0);
            snapped(way, -0.0, 0.0, -0.0, 0.0);
        }
        snapped(0, 0.5, 0.5, 0.0, 0.0);
        snapped(1, -0.5, -0.5, -0.0, -0.0);
        snapped(2, -0.5, 0.5, -0.0, 0.0);
        snapped(2, 0.5, -0.5, 0.0, -0.0);
        snapped(3, -0.75, 0.75, -0.0, 0.0);
        snapped(3, 0.75, -0.75, 0.0, -0.0);
        snapped(0, -TINY, Float.MIN_VALUE, -1, 0.0);
        snapped(1, -TINY, Float.MIN_VALUE, -0.0, 1);
        done("great steps", t.steps(b(HUGE), f(Float.MAX_VALUE)));
        // The quotient itself is rounded to a 0, which DOWN and UP leave as it is.
        snapped(0, -TINY, -Float.MIN_VALUE, -0.0, -0.0);
        snapped(1, TINY, Float.MIN_VALUE, 0.0, 0.0);
        t.walls(b(0.0), b(INF));
        t.rails(f(0.0), f(INF));
        int met = t.count(2);
        snapped(0, 0.0, 0.0, 0.0, 0.0);
        CHECK.due("no meeting", t.count(2), met);
    }

    private static void promise7Rounding() {
        fresh("promise 7, each operation by itself");
        done("steps", t.steps(b(0.1), f(0.1)));
        for (int i = -50; i < 50; i++) {
            double x = i * 0.17;
            float y = i * 0.17f;
            put(0, x, y);
            done("snap", t.snap(0, 2));
            CHECK.due("x of " + x, t.x(0), b(Math.rint(x / 0.1) * 0.1));
            CHECK.due("y of " + y, t.y(0), Float.floatToRawIntBits((float) Math.rint(y / 0.1f) * 0.1f));
        }
    }

    private static void promise7Refused() {
        fresh("promise 7, refused");
        for (int k : NO_POINTS) {
            CHECK.due("snap " + k, t.snap(k, 0), 1);
        }
        for (int way : new int[] {-1, 4, Integer.MIN_VALUE, Integer.MAX_VALUE}) {
            CHECK.due("snap way " + way, t.snap(0, way), 1);
        }
        done("steps", t.steps(b(TINY), f(1)));
        put(0, 1, 1);
        CHECK.due("snap beyond all x", t.snap(0, 3), 5);
        done("steps", t.steps(b(1), f(Float.MIN_VALUE)));
        CHECK.due("snap beyond all y", t.snap(0, 3), 5);
        done("steps", t.steps(b(0x1.8p1023), f(1)));
        put(0, HUGE, 1);
        CHECK.due("the product is beyond all", t.snap(0, 1), 5);
        at(0, HUGE, 1);
        CHECK.due("met", t.count(2), 0);
        done("walls", t.walls(b(-INF), b(4)));
        done("steps", t.steps(b(TINY), f(1)));
        done("snap to the wall", t.snap(0, 1));
        at(0, 4, 1);
        CHECK.due("met", t.count(2), 2);
        put(0, -1, 1);
        CHECK.due("snap the other way", t.snap(0, 1), 5);
    }

    private static void promise8() {
        fresh("promise 8");
        put(0, 3, -4);
        put(1, -0.0, 0.0);
        put(2, 9, -0.0);
        done("lean", t.lean(0, 1));
        at(0, -3, 4);
        at(1, -0.0, 0.0);
        done("lean", t.lean(0, 2));
        at(0, 3, -4);
        done("lean a 0", t.lean(1, 0));
        at(1, 0.0, -0.0);
        done("lean on itself", t.lean(0, 0));
        at(0, 3, -4);
        counts(7, 0, 0, 7);
        for (int k : NO_POINTS) {
            CHECK.due("lean " + k, t.lean(k, 0), 1);
            CHECK.due("lean on " + k, t.lean(0, k), 1);
        }
        put(3, -1, 1);
        done("walls", t.walls(b(-2), b(7)));
        done("rails", t.rails(f(-5), f(2)));
        CHECK.due("met", t.count(2), 1);
        done("lean to the walls", t.lean(0, 3));
        at(0, -2, 2);
        CHECK.due("met", t.count(2), 3);
    }

    private static void promise9() {
        fresh("promise 9");
        put(0, 3, -4);
        put(1, 5, -6);
        done("pull up", t.pull(0, 1, 0));
        at(0, 5, -4);
        at(1, 5, -6);
        done("pull down", t.pull(0, 1, 1));
        at(0, 5, -6);
        put(0, 0.0, -0.0);
        put(1, -0.0, 0.0);
        done("pull up", t.pull(0, 1, 0));
        at(0, 0.0, 0.0);
        done("pull down", t.pull(0, 1, 1));
        at(0, -0.0, 0.0);
        put(1, 1, -0.0);
        done("pull down", t.pull(0, 1, 1));
        at(0, -0.0, -0.0);
        put(2, -3, -2);
        done("pull up to the less negative", t.pull(2, 0, 0));
        at(2, -0.0, -0.0);
        put(2, -3, -2);
        put(3, -2, -3);
        done("pull down", t.pull(2, 3, 1));
        at(2, -3, -3);
        done("pull itself", t.pull(2, 2, 0));
        at(2, -3, -3);
        counts(16, 0, 0, 16);
        for (int k : NO_POINTS) {
            CHECK.due("pull " + k, t.pull(k, 0, 0), 1);
            CHECK.due("pull to " + k, t.pull(0, k, 0), 1);
        }
        for (int way : new int[] {-1, 2, 3, Integer.MAX_VALUE}) {
            CHECK.due("pull way " + way, t.pull(0, 1, way), 1);
        }
        CHECK.due("undo", t.undo(), 2);
    }

    private static void promise10() {
        fresh("promise 10");
        put(0, 3, -4);
        done("swing", t.swing(0, b(5)));
        at(0, 7, 4);
        done("swing", t.swing(0, b(-0.5)));
        at(0, -8, -4);
        put(0, 4, 0.0);
        done("swing to 0", t.swing(0, b(2)));
        at(0, 0.0, -0.0);
        done("swing 0 about 0", t.swing(0, b(0.0)));
        at(0, 0.0, 0.0);
        done("swing 0 about -0", t.swing(0, b(-0.0)));
        at(0, -0.0, -0.0);
        done("swing -0 about -0", t.swing(0, b(-0.0)));
        at(0, 0.0, 0.0);
        put(0, 0x1p-60, 1);
        done("each operation is rounded", t.swing(0, b(0.1)));
        CHECK.due("x", t.x(0), b(0.1 + 0.1 - 0x1p-60));
        put(0, TINY, Float.MIN_VALUE);
        done("swing", t.swing(0, b(TINY)));
        at(0, TINY, -Float.MIN_VALUE);
    }

    private static void promise10Refused() {
        fresh("promise 10, refused");
        for (int k : NO_POINTS) {
            CHECK.due("1 ahead of 2", t.swing(k, NO_XS[0]), 1);
            CHECK.due("1 ahead of 3", t.swing(k, b(INF)), 1);
        }
        for (long x : NO_XS) {
            CHECK.due("swing about NONE", t.swing(0, x), 2);
        }
        CHECK.due("swing about infinite", t.swing(0, b(INF)), 3);
        CHECK.due("swing about infinite", t.swing(0, b(-INF)), 3);
        CHECK.due("twice is infinite", t.swing(0, b(HUGE)), 5);
        CHECK.due("twice is infinite", t.swing(0, b(-0x1p1023)), 5);
        put(0, HUGE, 1);
        CHECK.due("the difference is infinite", t.swing(0, b(-0x1p1022)), 5);
        CHECK.due("twice is infinite ahead of the difference", t.swing(0, b(HUGE)), 5);
        at(0, HUGE, 1);
        done("walls", t.walls(b(-9), b(8)));
        done("rails", t.rails(f(-0.5), f(2)));
        CHECK.due("infinite between walls", t.swing(0, b(INF)), 3);
        done("swing to the wall", t.swing(0, b(HUGE)));
        at(0, 8, -0.5);
        CHECK.due("met", t.count(2), 3);
        done("swing to the other wall", t.swing(0, b(-HUGE)));
        at(0, -9, 0.5);
        CHECK.due("met", t.count(2), 4);
    }

    private static void promise11() {
        fresh("promise 11");
        for (int g : new int[] {-1, 4, Integer.MIN_VALUE, Integer.MAX_VALUE}) {
            CHECK.due("guide " + g, t.guide(g, b(1)), 1);
            CHECK.due("1 ahead of 2", t.guide(g, NO_XS[0]), 1);
        }
        for (long x : NO_XS) {
            CHECK.due("guide at NONE", t.guide(0, x), 2);
        }
        counts(0, 8 + NO_XS.length, 0, 0);
        for (int g = 0; g < 4; g++) {
            done("guide " + g, t.guide(g, b(g + 1)));
            CHECK.due("no trail of a guide", t.count(3), 0);
            put(g, g + 1.25, 0);
            done("stick", t.stick(g, b(0.25)));
            at(g, g + 1, 0);
            t.walls(b(-INF), b(INF));
        }
        CHECK.due("refused", t.guide(0, NO_XS[1]), 2);
        put(0, 0.5, 0);
        done("a refused one leaves the guide", t.stick(0, b(0.5)));
        at(0, 1, 0);
        done("OFF", t.guide(0, b(INF)));
        done("OFF", t.guide(1, b(-INF)));
        done("OFF", t.guide(2, b(INF)));
        CHECK.due("stick", t.stick(0, b(2)), 6);
        done("stick", t.stick(0, b(3)));
        at(0, 4, 0);
        done("OFF", t.guide(3, b(-INF)));
        CHECK.due("stick", t.stick(0, b(INF)), 6);
        done("on again", t.guide(3, b(-0.0)));
        done("stick", t.stick(0, b(INF)));
        at(0, -0.0, 0);
    }

    private static void promise12() {
        fresh("promise 12");
        put(0, 3, -0.0);
        CHECK.due("no guide", t.stick(0, b(INF)), 6);
        t.guide(2, b(5));
        t.guide(1, b(1));
        t.guide(3, b(3.5));
        done("stick", t.stick(0, b(0.5)));
        at(0, 3.5, -0.0);
        CHECK.due("undo", t.undo(), 0);
        at(0, 3, -0.0);
        t.guide(3, b(INF));
        CHECK.due("not within reach", t.stick(0, b(1.9999999999999998)), 6);
        done("of several the lowest", t.stick(0, b(2)));
        at(0, 1, -0.0);
        put(0, 3, -0.0);
        t.guide(0, b(5));
        done("of several the lowest", t.stick(0, b(2)));
        at(0, 5, -0.0);
        done("reach 0", t.stick(0, b(0.0)));
        done("reach -0", t.stick(0, b(-0.0)));
        at(0, 5, -0.0);
        put(0, 5.5, 1);
        CHECK.due("reach 0", t.stick(0, b(0.0)), 6);
        CHECK.due("reach -0", t.stick(0, b(-0.0)), 6);
        t.guide(3, b(0.0));
        put(0, -0.0, 1);
        done("the guide's 0", t.stick(0, b(0.0)));
        at(0, 0.0, 1);
        t.guide(3, b(-0.0));
        done("the guide's -0", t.stick(0, b(-0.0)));
        at(0, -0.0, 1);
        done("walls", t.walls(b(2), b(4)));
        int met = t.count(2);
        done("stick behind a wall", t.stick(0, b(1)));
        at(0, 2, 1);
        CHECK.due("met", t.count(2), met + 1);
        CHECK.due("trail", t.count(3), 1);
    }

    private static void promise12Infinite() {
        fresh("promise 12, infinite");
        put(0, -HUGE, 1);
        t.guide(1, b(HUGE));
        t.guide(2, b(0x1p1023));
        CHECK.due("an infinite difference", t.stick(0, b(HUGE)), 6);
        done("an infinite difference, an infinite reach", t.stick(0, b(INF)));
        at(0, HUGE, 1);
        put(0, -HUGE, 1);
        t.guide(3, b(0));
        done("a finite one is nearer", t.stick(0, b(HUGE)));
        at(0, 0, 1);
    }

    private static void promise12Refused() {
        fresh("promise 12, refused");
        for (int k : NO_POINTS) {
            CHECK.due("1 ahead of 2", t.stick(k, NO_XS[0]), 1);
            CHECK.due("1 ahead of 4", t.stick(k, b(-1)), 1);
        }
        for (long x : NO_XS) {
            CHECK.due("NONE", t.stick(0, x), 2);
        }
        CHECK.due("4 ahead of 6", t.stick(0, b(-TINY)), 4);
        t.guide(0, b(0));
        CHECK.due("below 0", t.stick(0, b(-1)), 4);
        CHECK.due("below 0", t.stick(0, b(-TINY)), 4);
        CHECK.due("below 0", t.stick(0, b(-INF)), 4);
        counts(1, 2 * NO_POINTS.length + NO_XS.length + 4, 0, 0);
    }

    private static void promise13() {
        fresh("promise 13");
        CHECK.due("undo", t.undo(), SnapTable.NONE);
        put(1, 1.5, 2.5);
        put(2, -0.0, -0.0);
        done("move", t.move(1, b(1), f(1)));
        done("snap", t.snap(1, 0));
        done("lean", t.lean(1, 2));
        done("pull", t.pull(2, 1, 1));
        done("swing", t.swing(2, b(4)));
        t.guide(0, b(10));
        t.steps(b(2), f(2));
        done("stick", t.stick(2, b(INF)));
        at(2, 10, 3);
        counts(10, 0, 0, 8);
        CHECK.due("undo stick", t.undo(), 2);
        at(2, 10, 3);
        CHECK.due("undo swing", t.undo(), 2);
        at(2, -2, -3);
        CHECK.due("undo pull", t.undo(), 2);
        at(2, -0.0, -0.0);
        at(1, -2, -3);
        CHECK.due("undo lean", t.undo(), 1);
        at(1, 2, 3);
        CHECK.due("undo snap", t.undo(), 1);
        at(1, 2.5, 3.5);
        CHECK.due("undo move", t.undo(), 1);
        at(1, 1.5, 2.5);
        CHECK.due("trail", t.count(3), 2);
        CHECK.due("undo place", t.undo(), 2);
        at(2, 0.0, 0.0);
        CHECK.due("undo place", t.undo(), 1);
        at(1, 0.0, 0.0);
        CHECK.due("undo", t.undo(), SnapTable.NONE);
        counts(10, 0, 0, 0);
        CHECK.due("STEP isn't undone", t.steps(b(INF), f(1)), 3);
        put(1, 7, 7);
        CHECK.due("cell", t.cell(1), 3);
        CHECK.due("refused acts leave no trail", t.move(1, b(INF), f(0)), 5);
        CHECK.due("trail", t.count(3), 1);
        put(1, 7, 7);
        CHECK.due("the same again leaves one", t.count(3), 2);
        CHECK.due("undo", t.undo(), 1);
        at(1, 7, 7);
    }

    private static void promise13Sixteen() {
        fresh("promise 13, the latest 16");
        for (int i = 1; i <= 20; i++) {
            put(i % 8, i, -i);
            CHECK.due("trail", t.count(3), Math.min(i, 16));
        }
        for (int i = 20; i > 4; i--) {
            CHECK.due("undo " + i, t.undo(), i % 8);
            CHECK.due("trail", t.count(3), i - 5);
            at(i % 8, i <= 8 ? 0.0 : i - 8, i <= 8 ? 0.0 : 8 - i);
        }
        CHECK.due("undo", t.undo(), SnapTable.NONE);
        at(4, 4, -4);
        put(3, 9, 9);
        CHECK.due("undo", t.undo(), 3);
        at(3, 3, -3);
        counts(21, 0, 0, 0);
    }

    private static void promise14And15() {
        fresh("promises 14 and 15");
        for (int k = 0; k < 8; k++) {
            put(k, k + 0.5, -k - 0.25);
        }
        for (int k = 0; k < 8; k++) {
            at(k, k + 0.5, -k - 0.25);
        }
        for (int k : NO_POINTS) {
            CHECK.due("x " + k, t.x(k), 0);
            CHECK.due("y " + k, t.y(k), 0);
        }
        long x = 1;
        for (int y = 1; y > 0 && y < 0x7f800000; y += 104729) {
            x = x * 6364136223846793005L + 1442695040888963407L;
            long finite = x & 0xbfffffffffffffffL;
            SnapTable other = new SnapTable();
            done("place", other.place(0, finite, y));
            CHECK.due("x", other.x(0), finite);
            CHECK.due("y", other.y(0), y);
            done("place", other.place(0, finite, y | 0x80000000));
            CHECK.due("y", other.y(0), y | 0x80000000);
        }
    }

    private static void promise16And17() {
        fresh("promises 16 and 17");
        double[][] rows = {
            {3, 1}, {-3, -1}, {0.0, 0.0}, {-0.0, -0.0}, {1e-40, 1}, {-1e-40, -1}, {1e38, 1}, {-1e38, -1}, {1, 1}, {-1, -1},
        };
        for (double[] row : rows) {
            for (double[] other : rows) {
                SnapTable table = new SnapTable();
                table.place(5, b(row[0]), f(other[0]));
                CHECK.due("side of " + row[0], table.side(5), b(row[1]));
                CHECK.due("lift of " + other[0], table.lift(5), f(other[1]));
            }
        }
        put(0, TINY, -Float.MIN_VALUE);
        CHECK.due("side", t.side(0), b(1));
        CHECK.due("lift", t.lift(0), f(-1));
        for (int k : NO_POINTS) {
            CHECK.due("side " + k, t.side(k), 0);
            CHECK.due("lift " + k, t.lift(k), 0);
        }
    }

    private static void promise18() {
        fresh("promise 18");
        put(0, 3, 1);
        put(1, -1, 2.5);
        put(2, 3.5, -9);
        CHECK.due("far by x", t.far(0, 1), b(4));
        CHECK.due("far by x, turned", t.far(1, 0), b(4));
        CHECK.due("far by y", t.far(0, 2), b(10));
        CHECK.due("far from itself", t.far(2, 2), b(0.0));
        put(3, -0.0, -0.0);
        CHECK.due("far of zeros", t.far(3, 4), b(0.0));
        CHECK.due("far of zeros", t.far(4, 3), b(0.0));
        put(5, 0, 0.1);
        put(6, 0, 0.3);
        CHECK.due("far in float", t.far(5, 6), b(0.3f - 0.1f));
        put(5, 0.1, 0);
        put(6, 0.3, 0);
        CHECK.due("far in double", t.far(5, 6), b(0.3 - 0.1));
        put(5, 0, Float.MIN_VALUE);
        CHECK.due("far of least y's", t.far(5, 7), b(Float.MIN_VALUE));
        put(5, TINY, 0);
        CHECK.due("far of least x's", t.far(5, 7), b(TINY));
        put(5, HUGE, 0);
        put(6, -HUGE, 0);
        CHECK.due("infinite by x", t.far(5, 6), b(INF));
        put(5, 1e300, Float.MAX_VALUE);
        put(6, -1e300, -Float.MAX_VALUE);
        CHECK.due("infinite by y", t.far(5, 6), b(INFF));
        for (int k : NO_POINTS) {
            CHECK.due("far " + k, t.far(k, 5), 0);
            CHECK.due("far from " + k, t.far(5, k), 0);
        }
    }

    private static void cell(double x, int due) {
        put(0, x, 0);
        CHECK.due("cell at " + x, t.cell(0), due);
    }

    private static void promise19() {
        fresh("promise 19");
        cell(2.75, 2);
        cell(-2.25, -3);
        cell(-0.0, 0);
        cell(-TINY, -1);
        cell(2147483647.0, Integer.MAX_VALUE);
        cell(2147483647.5, Integer.MAX_VALUE);
        cell(2147483648.0, Integer.MAX_VALUE);
        cell(1e300, Integer.MAX_VALUE);
        cell(-2147483648.0, Integer.MIN_VALUE);
        cell(-2147483647.5, Integer.MIN_VALUE);
        cell(-2147483649.0, Integer.MIN_VALUE);
        cell(-1e19, Integer.MIN_VALUE);
        cell(4294967296.0, Integer.MAX_VALUE);
        t.steps(b(0.1), f(1));
        cell(0.3, (int) Math.floor(0.3 / 0.1));
        cell(0.7, (int) Math.floor(0.7 / 0.1));
        cell(-1, -10);
        t.steps(b(TINY), f(1));
        cell(1, Integer.MAX_VALUE);
        cell(-1, Integer.MIN_VALUE);
        cell(-7 * TINY, -7);
        for (int k : NO_POINTS) {
            CHECK.due("cell " + k, t.cell(k), 0);
        }
    }

    private static void mark(double y, long due) {
        put(0, 0, y);
        CHECK.due("mark at " + y, t.mark(0), due);
    }

    private static void promise20() {
        fresh("promise 20");
        mark(2.5, 2);
        mark(3.5, 4);
        mark(-2.5, -2);
        mark(-3.5, -4);
        mark(2.75, 3);
        mark(-0.5, 0);
        mark(0x1p40, 1L << 40);
        mark(0x1p62, 1L << 62);
        mark(0x1p63, Long.MAX_VALUE);
        mark(-0x1p63, Long.MIN_VALUE);
        mark(1e30, Long.MAX_VALUE);
        mark(-1e30, Long.MIN_VALUE);
        t.steps(b(1), f(0.1));
        for (float y = -3; y < 3; y += 0.07f) {
            mark(y, (long) Math.rint(y / 0.1f));
        }
        t.steps(b(1), f(Float.MIN_VALUE));
        mark(1, Long.MAX_VALUE);
        mark(-1, Long.MIN_VALUE);
        mark(-7 * Float.MIN_VALUE, -7);
        t.steps(b(1), f(1.5f));
        mark(3.75f, 2);
        for (int k : NO_POINTS) {
            CHECK.due("mark " + k, t.mark(k), 0);
        }
    }

    private static void promise21() {
        fresh("promise 21");
        put(0, 2.75, 0);
        put(1, -2.25, 0);
        CHECK.due("gap", t.gap(0, 1), 5);
        CHECK.due("gap", t.gap(1, 0), 5);
        CHECK.due("gap", t.gap(1, 1), 0);
        put(2, 1e30, 0);
        put(3, -1e30, 0);
        put(4, -1, 0);
        CHECK.due("gap goes round", t.gap(2, 3), 1);
        CHECK.due("gap goes round", t.gap(3, 2), 1);
        CHECK.due("gap of the least", t.gap(2, 4), Integer.MIN_VALUE);
        CHECK.due("gap of the least", t.gap(4, 2), Integer.MIN_VALUE);
        CHECK.due("gap of the least", t.gap(3, 5), Integer.MIN_VALUE);
        for (int k : NO_POINTS) {
            CHECK.due("gap " + k, t.gap(k, 0), 0);
            CHECK.due("gap to " + k, t.gap(0, k), 0);
        }
    }

    private static void promise22() {
        fresh("promise 22");
        put(0, 0, 2.75);
        put(1, 0, -2.25);
        CHECK.due("rise", t.rise(0, 1), 5);
        CHECK.due("rise", t.rise(1, 0), 5);
        CHECK.due("rise", t.rise(1, 1), 0);
        put(2, 0, 1e30);
        put(3, 0, -1e30);
        put(4, 0, -1);
        CHECK.due("rise goes round", t.rise(2, 3), 1);
        CHECK.due("rise goes round", t.rise(3, 2), 1);
        CHECK.due("rise of the least", t.rise(2, 4), Long.MIN_VALUE);
        CHECK.due("rise of the least", t.rise(3, 5), Long.MIN_VALUE);
        put(5, 0, 0x1p40);
        CHECK.due("rise beyond ints", t.rise(5, 4), (1L << 40) + 1);
        for (int k : NO_POINTS) {
            CHECK.due("rise " + k, t.rise(k, 0), 0);
            CHECK.due("rise to " + k, t.rise(0, k), 0);
        }
    }

    private static void ends(double greatX, double leastX, double greatY, double leastY) {
        CHECK.due("edge 0", t.edge(0), b(greatX));
        CHECK.due("edge 1", t.edge(1), b(leastX));
        CHECK.due("rim 0", t.rim(0), f(greatY));
        CHECK.due("rim 1", t.rim(1), f(leastY));
    }

    private static void promise23And24() {
        fresh("promises 23 and 24");
        ends(0.0, 0.0, 0.0, 0.0);
        put(3, -0.0, -0.0);
        ends(0.0, -0.0, 0.0, -0.0);
        put(7, 5, -6);
        put(0, -2, 9);
        ends(5, -2, 9, -6);
        for (int k = 0; k < 8; k++) {
            put(k, -10 - k, k + 10);
        }
        ends(-10, -17, 17, 10);
        for (int k = 0; k < 8; k++) {
            put(k, -0.0, -0.0);
        }
        ends(-0.0, -0.0, -0.0, -0.0);
        put(6, 0.0, 0.0);
        ends(0.0, -0.0, 0.0, -0.0);
        for (int way : new int[] {-1, 2, 3, Integer.MIN_VALUE, Integer.MAX_VALUE}) {
            CHECK.due("edge " + way, t.edge(way), 0);
            CHECK.due("rim " + way, t.rim(way), 0);
        }
    }

    private static void promise25() {
        fresh("promise 25");
        CHECK.due("of several the lowest", t.neighbour(0), 1);
        CHECK.due("of several the lowest", t.neighbour(1), 0);
        CHECK.due("of several the lowest", t.neighbour(7), 0);
        for (int k = 0; k < 8; k++) {
            put(k, 100 * k * k, 0);
        }
        CHECK.due("neighbour", t.neighbour(0), 1);
        CHECK.due("neighbour", t.neighbour(3), 2);
        CHECK.due("neighbour", t.neighbour(7), 6);
        put(6, 4900, 2000);
        put(5, 4900, -1500);
        CHECK.due("neighbour by y", t.neighbour(7), 5);
        put(2, 1, -1);
        put(1, 1, 1);
        CHECK.due("of two the lowest", t.neighbour(0), 1);
        for (int k = 0; k < 8; k++) {
            put(k, 0, 0);
        }
        put(4, HUGE, 0);
        for (int k = 0; k < 8; k++) {
            if (k != 4) {
                put(k, -HUGE, 0);
            }
        }
        CHECK.due("all infinitely far", t.neighbour(4), 0);
        put(6, 0, 0);
        CHECK.due("a finite one", t.neighbour(4), 6);
        for (int k : NO_POINTS) {
            CHECK.due("neighbour " + k, t.neighbour(k), SnapTable.NONE);
        }
    }

    private static void promise26And27() {
        fresh("promises 26 and 27");
        for (int k = 0; k < 8; k++) {
            put(k, k - 3.5, 2.5 - k);
        }
        CHECK.due("column 0", t.column(0), 3);
        CHECK.due("column 1", t.column(1), -4);
        CHECK.due("row 0", t.row(0), 2);
        CHECK.due("row 1", t.row(1), -4);
        t.steps(b(0.5), f(0.25));
        CHECK.due("column 0", t.column(0), 7);
        CHECK.due("column 1", t.column(1), -7);
        CHECK.due("row 0", t.row(0), 10);
        CHECK.due("row 1", t.row(1), -18);
        put(4, 1e30, 1e30);
        put(5, -1e30, -1e30);
        CHECK.due("column 0", t.column(0), Integer.MAX_VALUE);
        CHECK.due("column 1", t.column(1), Integer.MIN_VALUE);
        CHECK.due("row 0", t.row(0), Long.MAX_VALUE);
        CHECK.due("row 1", t.row(1), Long.MIN_VALUE);
        for (int way : new int[] {-1, 2, 3, Integer.MIN_VALUE, Integer.MAX_VALUE}) {
            CHECK.due("column " + way, t.column(way), 0);
            CHECK.due("row " + way, t.row(way), 0);
        }
    }

    private static void promise28() {
        fresh("promise 28");
        for (int what : new int[] {-1, 4, 5, Integer.MIN_VALUE, Integer.MAX_VALUE}) {
            CHECK.due("count " + what, t.count(what), SnapTable.NONE);
        }
        counts(0, 0, 0, 0);
        put(0, 5, 5);
        t.steps(b(1), f(1));
        t.guide(0, b(1));
        counts(3, 0, 0, 1);
        t.walls(b(-1), b(1));
        counts(4, 0, 1, 0);
        t.rails(f(-1), f(1));
        counts(5, 0, 2, 0);
        t.move(0, b(1), f(1));
        t.snap(0, 0);
        t.lean(0, 1);
        t.pull(0, 1, 0);
        counts(9, 0, 4, 4);
        t.swing(0, b(3));
        t.stick(0, b(9));
        counts(11, 0, 5, 6);
        t.stick(0, b(-1));
        t.undo();
        t.x(8);
        t.neighbour(-1);
        t.edge(7);
        counts(11, 1, 5, 5);
    }
}
