/** Each sentence ahead of the promises that names a boundary case, with a test of its own. */
public final class TermsTest extends Desk {
    public static void main(String[] args) throws ReflectiveOperationException {
        runAll(TermsTest.class);
    }

    private static void terms(String sentence) {
        fresh("Terms: '" + sentence + "'");
    }

    private static void terms(String sentence, String where) {
        fresh("Terms: '" + sentence + "', " + where);
    }

    private static void moved(double x, double dx, double dueX, double y, double dy, double dueY) {
        put(0, x, y);
        done("move " + x + " by " + dx + ", " + y + " by " + dy, t.move(0, b(dx), f(dy)));
        at(0, dueX, dueY);
    }

    private static void snapped(int way, double x, double dueX, double y, double dueY) {
        put(0, x, y);
        done("snap way " + way + " of " + x + ", " + y, t.snap(0, way));
        at(0, dueX, dueY);
    }

    private static void last512Acts() {
        fresh("What it is: 'An object is used for at most 512 calls'");
        for (int i = 1; i <= 511; i++) {
            put(i % 8, i, -i);
        }
        due("the 512th call", t.count(0), 511);
        fresh("512 calls, refused ones");
        for (int i = 1; i <= 511; i++) {
            due("place " + i, t.place(8, 0, 0), 1);
        }
        due("the 512th call", t.count(1), 511);
    }

    private static void last512Undo() {
        fresh("What it is: 'An object is used for at most 512 calls', undone");
        for (int i = 1; i <= 494; i++) {
            put(i % 8, i, -i);
        }
        for (int i = 494; i > 478; i--) {
            due("undo " + i, t.undo(), i % 8);
        }
        due("the 511th call", t.undo(), NONE);
        due("the 512th call", t.x(478 % 8), b(478));
    }

    private static void last512Meetings() {
        fresh("What it is: 'An object is used for at most 512 calls', met walls");
        done("walls", t.walls(b(1), b(2)));
        done("rails", t.rails(f(1), f(2)));
        for (int i = 0; i < 509; i++) {
            put(i % 8, 5, -5);
        }
        due("the 512th call", t.count(2), 16 + 2 * 509);
    }

    private static void everyPower() {
        terms("NUMBERS are those of IEEE 754: X'S of 64 bits, Y'S of 32");
        for (int power = Double.MIN_EXPONENT - 52; power < Double.MAX_EXPONENT; power++) {
            t = new SnapTable();
            double x = Math.scalb(1.0, power);
            // The y's have fewer powers, and so go through theirs again and again.
            float y = Math.scalb(1f, Math.floorMod(power, 276) - 149);
            moved(x, x, 2 * x, -y, -y, -2 * y);
            done("move", t.move(0, b(-x), f(y)));
            at(0, x, -y);
            done("three times", t.move(0, b(2 * x), f(-2 * y)));
            at(0, 3 * x, -3 * y);
        }
    }

    private static void sums() {
        terms("Sums .. are rounded to the nearest, of two as near to the even one");
        moved(0x1p53, 1, 0x1p53, 0x1p24, 1, 0x1p24);
        moved(0x1p53 + 2, 1, 0x1p53 + 4, 0x1p24 + 2, 1, 0x1p24 + 4);
        moved(0x1p53, 0x1.0000000000001p0, 0x1p53 + 2, 0x1p24, 0x1.000002p0, 0x1p24 + 2);
        moved(0x1p53 + 2, 0x1.fffffffffffffp-1, 0x1p53 + 2, 0x1p24 + 2, 0x1.fffffep-1, 0x1p24 + 2);
        moved(-0x1p53, -1, -0x1p53, -0x1p24, -1, -0x1p24);
        moved(1, 0x1p-53, 1, 1, 0x1p-24, 1);
        moved(1, -0x1p-54, 1, 1, -0x1p-25, 1);
        moved(1, -0x1.0000000000001p-54, 0x1.fffffffffffffp-1, 1, -0x1.000002p-25, 0x1.fffffep-1);
    }

    private static void sumsOfLeast() {
        terms("Sums .. are rounded to the nearest", "the least numbers");
        moved(TINY, TINY, 2 * TINY, TINYF, TINYF, 2 * TINYF);
        moved(0x1p-1022, -TINY, 0x0.fffffffffffffp-1022, 0x1p-126, -TINYF, 0x0.fffffep-126);
        moved(0x0.fffffffffffffp-1022, TINY, 0x1p-1022, 0x0.fffffep-126, TINYF, 0x1p-126);
        moved(-TINY, TINY, 0.0, -TINYF, TINYF, 0.0);
        moved(1, TINY, 1, 1, TINYF, 1);
        moved(-0.0, TINY, TINY, -0.0, -TINYF, -TINYF);
    }

    private static void differences() {
        terms("differences .. are rounded to the nearest, of two as near to the even one");
        put(0, -1, 1);
        done("swing", t.swing(0, b(0x1p52)));
        at(0, 0x1p53, -1);
        put(0, -3, 1);
        done("swing", t.swing(0, b(0x1p52)));
        at(0, 0x1p53 + 4, -1);
        put(0, 0x1p53, 0);
        put(1, -1, 0);
        due("far by x", t.far(0, 1), b(0x1p53));
        put(1, -3, 0);
        due("far by x", t.far(0, 1), b(0x1p53 + 4));
        put(0, 0, 0x1p24);
        put(1, 0, -1);
        due("far by y", t.far(0, 1), b(0x1p24));
        put(1, 0, -3);
        due("far by y", t.far(0, 1), b(0x1p24 + 4));
    }

    private static void quotients() {
        terms("quotients are rounded to the nearest .. each operation by itself");
        done("steps", t.steps(b(0.1), f(0.1f)));
        put(0, 0.9, 0.9f);
        // The exact quotients lie a little below 9, the rounded ones at 9; in double the y's would stay below it.
        due("cell", t.cell(0), 9);
        done("snap", t.snap(0, 0));
        at(0, 9 * 0.1, 9 * 0.1f);
        put(0, 0.3, 0.3f);
        due("cell", t.cell(0), 2);
        done("steps", t.steps(b(2), f(2)));
        put(0, 3 * TINY, 3 * TINYF);
        done("of two as near the even one", t.snap(0, 1));
        at(0, 2, 2);
        done("steps", t.steps(b(0x1p1023), f(0x1p127)));
        snapped(1, 0x1p-52, 0.0, 0x1p-23, 0.0);
        snapped(1, 0x1.0000000000001p-52, 0x1p1023, 0x1.000002p-23, 0x1p127);
    }

    private static void products() {
        terms("products .. are rounded to the nearest, of two as near to the even one");
        done("steps", t.steps(b(0x1.0000000000001p0), f(0x1.000002p0)));
        snapped(0, 3.25, 0x1.8000000000002p1, 3.25, 0x1.800004p1);
        snapped(1, -3.25, -0x1.8000000000002p1, -3.25, -0x1.800004p1);
        snapped(0, 5.25, 0x1.4000000000001p2, 5.25, 0x1.400002p2);
        snapped(0, 6.25, 0x1.8000000000002p2, 6.25, 0x1.800004p2);
    }

    private static void widthsByThemselves() {
        terms("x's with x's, y's with y's");
        moved(1, 0x1p-52, 0x1.0000000000001p0, 1, 0x1p-52, 1);
        moved(0.1, 0.2, 0.1 + 0.2, 0.1f, 0.2f, 0.1f + 0.2f);
        put(0, 0.1, 0.1f);
        put(1, 0.3, 0.4f);
        due("far in float", t.far(0, 1), b(0.4f - 0.1f));
        put(1, 0.5, 0.4f);
        due("far in double", t.far(0, 1), b(0.5 - 0.1));
    }

    private static void twoZeros() {
        terms("-0 and 0 are two numbers.");
        put(0, -0.0, 0.0);
        due("x", t.x(0), 0x8000000000000000L);
        due("y", t.y(0), 0);
        put(0, 0.0, -0.0);
        due("x", t.x(0), 0);
        due("y", t.y(0), 0x80000000);
        due("undo", t.undo(), 0);
        at(0, -0.0, 0.0);
    }

    private static void minusZeroBelowZero() {
        terms("The LESSER and the GREATER of two: by their size and sign, -0 being below 0.");
        double[] rising = {-HUGEF, -2, -1, -TINYF, -0.0, 0.0, TINYF, 1, 2, HUGEF};
        for (int low = 0; low < rising.length; low++) {
            for (int high = low; high < rising.length; high++) {
                t = new SnapTable();
                put(0, rising[low], rising[high]);
                put(1, rising[high], rising[low]);
                done("pull to the lesser", t.pull(0, 1, 1));
                at(0, rising[low], rising[low]);
                done("pull to the greater", t.pull(0, 1, 0));
                at(0, rising[high], rising[low]);
            }
        }
    }

    private static void sizeOfMinusZero() {
        terms("The SIZE of one: it without its sign (of -0: 0).");
        put(0, -0.0, -0.0);
        due("far of the difference -0", t.far(0, 1), 0);
        due("far of the difference 0", t.far(1, 0), 0);
        done("guide", t.guide(0, b(0.0)));
        done("stick by the difference -0", t.stick(0, b(0.0)));
        at(0, 0.0, -0.0);
    }

    private static void noneIsRefused() {
        terms("What is no number (NONE) .. is refused where it is told.");
        put(0, 1, 1);
        for (long no : NO_XS) {
            due("place", t.place(0, no, f(1)), 2);
            due("walls, left", t.walls(no, b(1)), 2);
            due("walls, right", t.walls(b(1), no), 2);
            due("steps", t.steps(no, f(1)), 2);
            due("move", t.move(0, no, f(1)), 2);
            due("swing", t.swing(0, no), 2);
            due("guide", t.guide(0, no), 2);
            due("stick", t.stick(0, no), 2);
        }
        for (int no : NO_YS) {
            due("place", t.place(0, b(1), no), 2);
            due("rails, low", t.rails(no, f(1)), 2);
            due("rails, high", t.rails(f(1), no), 2);
            due("steps", t.steps(b(1), no), 2);
            due("move", t.move(0, b(1), no), 2);
        }
        at(0, 1, 1);
        counts(1, 8 * NO_XS.length + 5 * NO_YS.length, 0, 1);
    }

    private static void noneComesFromNowhere() {
        terms("What is no number (NONE) comes from nowhere here");
        done("steps", t.steps(b(TINY), f(TINYF)));
        put(0, -HUGE, -HUGEF);
        put(1, HUGE, HUGEF);
        due("move by what is infinite", t.move(0, b(INF), f(INF)), 5);
        due("an infinite quotient by the least STEP", t.snap(0, 0), 5);
        due("swing", t.swing(1, b(HUGE)), 5);
        due("cell", t.cell(0), Integer.MIN_VALUE);
        due("mark", t.mark(1), Long.MAX_VALUE);
        due("far", t.far(0, 1), b(INF));
        done("walls", t.walls(b(-HUGE), b(HUGE)));
        done("rails", t.rails(f(-HUGEF), f(HUGEF)));
        done("snap", t.snap(0, 3));
        at(0, -HUGE, -HUGEF);
        done("move", t.move(0, b(INF), f(INF)));
        done("swing", t.swing(1, b(HUGE)));
        at(0, HUGE, HUGEF);
        at(1, HUGE, -HUGEF);
    }

    private static void greatestFiniteOnes() {
        terms("FINITE are all but the two infinite ones.");
        put(0, HUGE, HUGEF);
        at(0, HUGE, HUGEF);
        put(0, -HUGE, -HUGEF);
        at(0, -HUGE, -HUGEF);
        done("steps", t.steps(b(HUGE), f(HUGEF)));
        done("guide", t.guide(0, b(-HUGE)));
        done("swing", t.swing(0, b(-HUGE / 2)));
        at(0, 0.0, HUGEF);
        due("one bit more", t.place(0, b(HUGE) + 1, f(1)), 3);
        due("one bit more", t.place(0, b(1), f(HUGEF) + 1), 3);
        due("one bit more", t.place(0, b(-HUGE) + 1, f(1)), 3);
        due("one bit more", t.place(0, b(1), f(-HUGEF) + 1), 3);
    }

    private static void eightPoints() {
        terms("THE TABLE has eight POINTS 0 .. 7, each with an x and a y, always finite, 0 at first");
        for (int k = 0; k < 8; k++) {
            at(k, 0.0, 0.0);
        }
        due("the point below the first", t.place(-1, 0, 0), 1);
        due("the point after the last", t.place(8, 0, 0), 1);
        put(0, 1, 2);
        put(7, 3, 4);
        at(0, 1, 2);
        at(7, 3, 4);
    }

    private static void openWalls() {
        terms("a LEFT and a RIGHT wall, x's, -infinite and infinite at first; a LOW and a HIGH one, y's, likewise");
        put(0, HUGE, -HUGEF);
        put(1, -HUGE, HUGEF);
        at(0, HUGE, -HUGEF);
        at(1, -HUGE, HUGEF);
        counts(2, 0, 0, 2);
    }

    private static void firstSteps() {
        terms("a STEP, an x, and a GRAIN, a y, 1 at first");
        put(0, 1.5, 1.5);
        due("cell", t.cell(0), 1);
        due("mark", t.mark(0), 2);
        done("snap", t.snap(0, 1));
        at(0, 2, 2);
    }

    private static void fourGuides() {
        terms("four GUIDES 0 .. 3, each OFF (at first) or at a finite x");
        due("all are OFF", t.stick(0, b(INF)), 6);
        due("the guide below the first", t.guide(-1, b(1)), 1);
        due("the guide after the last", t.guide(4, b(1)), 1);
        done("the first", t.guide(0, b(5)));
        done("the last", t.guide(3, b(-4)));
        done("stick", t.stick(0, b(INF)));
        at(0, -4, 0);
    }

    private static void atTheWall() {
        terms("When that is another number (by its bits) than it was, the point has MET a wall");
        done("walls", t.walls(b(-2), b(3)));
        done("rails", t.rails(f(-4), f(5)));
        put(0, 3, 5);
        put(0, -2, -4);
        due("at the walls, none is met", t.count(2), 0);
        put(0, Math.nextDown(3.0), Math.nextUp(-4f));
        put(0, Math.nextUp(-2.0), Math.nextDown(5f));
        at(0, Math.nextUp(-2.0), Math.nextDown(5f));
        due("inside, none is met", t.count(2), 0);
        put(0, Math.nextUp(3.0), 0);
        at(0, 3, 0);
        due("RIGHT is met", t.count(2), 1);
        put(0, Math.nextDown(-2.0), 0);
        at(0, -2, 0);
        due("LEFT is met", t.count(2), 2);
        put(0, 0, Math.nextUp(5f));
        at(0, 0, 5);
        due("HIGH is met", t.count(2), 3);
        put(0, 0, Math.nextDown(-4f));
        at(0, 0, -4);
        due("LOW is met", t.count(2), 4);
    }

    private static void metByBits() {
        terms("another number (by its bits)");
        done("walls", t.walls(b(0.0), b(3)));
        done("rails", t.rails(f(-5), f(-0.0)));
        due("0 met HIGH -0 eight times", t.count(2), 8);
        put(0, -0.0, 0.0);
        at(0, 0.0, -0.0);
        due("-0 met LEFT 0, 0 met HIGH -0", t.count(2), 10);
        put(0, 0.0, -0.0);
        due("the walls' own zeros", t.count(2), 10);
    }

    private static void metOnceForEach() {
        terms("(once for its x, once for its y)");
        done("walls", t.walls(b(-1), b(1)));
        done("rails", t.rails(f(-1), f(1)));
        put(0, 9, 9);
        due("both", t.count(2), 2);
        put(1, 9, 0);
        due("x alone", t.count(2), 3);
        put(2, 0, 9);
        due("y alone", t.count(2), 4);
        put(2, 0, 0);
        due("neither", t.count(2), 4);
    }

    private static void waysDown() {
        terms("0 DOWN: the greatest whole number that isn't above it");
        snapped(0, 2, 2, -2, -2);
        snapped(0, Math.nextDown(2.0), 1, Math.nextDown(-2f), -3);
        snapped(0, Math.nextDown(-2.0), -3, Math.nextDown(2f), 1);
        snapped(0, -TINY, -1, -TINYF, -1);
        snapped(0, 0x1p52 - 0.5, 0x1p52 - 1, 0x1p23 - 0.5, 0x1p23 - 1);
        snapped(0, 0.5 - 0x1p52, -0x1p52, 0.5 - 0x1p23, -0x1p23);
    }

    private static void waysUp() {
        terms("1 UP: the least one that isn't below it");
        snapped(1, 2, 2, -2, -2);
        snapped(1, Math.nextUp(2.0), 3, Math.nextUp(-2f), -1);
        snapped(1, Math.nextUp(-2.0), -1, Math.nextUp(2f), 3);
        snapped(1, TINY, 1, TINYF, 1);
        snapped(1, 0x1p52 - 0.5, 0x1p52, 0x1p23 - 0.5, 0x1p23);
        snapped(1, 0.5 - 0x1p52, 1 - 0x1p52, 0.5 - 0x1p23, 1 - 0x1p23);
    }

    private static void waysNear() {
        terms("2 NEAR: the nearest one, of two as near the even one");
        snapped(2, 0.5, 0.0, 1.5, 2);
        snapped(2, 1.5, 2, 0.5, 0.0);
        snapped(2, -2.5, -2, -3.5, -4);
        snapped(2, -3.5, -4, -2.5, -2);
        snapped(2, Math.nextDown(0.5), 0.0, Math.nextDown(0.5f), 0.0);
        snapped(2, Math.nextUp(0.5), 1, Math.nextUp(0.5f), 1);
        snapped(2, Math.nextDown(1.5), 1, Math.nextUp(2.5f), 3);
        snapped(2, 0x1p52 - 0.5, 0x1p52, 0x1p23 - 0.5, 0x1p23);
        snapped(2, 0x1p52 - 1.5, 0x1p52 - 2, 0x1p23 - 1.5, 0x1p23 - 2);
        snapped(2, 0x1p52 + 1, 0x1p52 + 1, 0x1p23 + 1, 0x1p23 + 1);
        snapped(2, 0x1p53 - 1, 0x1p53 - 1, 0x1p24 - 1, 0x1p24 - 1);
    }

    private static void waysCut() {
        terms("3 CUT: DOWN of its size, with its sign.");
        snapped(3, 2, 2, -2, -2);
        snapped(3, Math.nextDown(2.0), 1, Math.nextUp(-2f), -1);
        snapped(3, Math.nextUp(-2.0), -1, Math.nextDown(2f), 1);
        snapped(3, Math.nextDown(-2.0), -2, Math.nextUp(2f), 2);
        snapped(3, -TINY, -0.0, TINYF, 0.0);
        snapped(3, 0.5 - 0x1p52, 1 - 0x1p52, 0x1p23 - 0.5, 0x1p23 - 1);
    }

    private static void infiniteStays() {
        terms("An infinite one stays");
        done("steps", t.steps(b(TINY), f(TINYF)));
        done("walls", t.walls(b(-7), b(8)));
        done("rails", t.rails(f(-5), f(6)));
        for (int way = 0; way < 4; way++) {
            snapped(way, 2, 8, -2, -5);
            snapped(way, -2, -7, 2, 6);
        }
        due("cell", t.cell(0), Integer.MIN_VALUE);
        due("mark", t.mark(0), Long.MAX_VALUE);
    }

    private static void signOfZero() {
        terms("a 0 that comes has the sign of the number that it came of.");
        for (int way = 0; way < 4; way++) {
            snapped(way, -0.0, -0.0, 0.0, 0.0);
            snapped(way, 0.0, 0.0, -0.0, -0.0);
        }
        snapped(0, 0.75, 0.0, 0.75, 0.0);
        snapped(1, -0.75, -0.0, -0.75, -0.0);
        snapped(2, -0.25, -0.0, 0.25, 0.0);
        snapped(2, 0.25, 0.0, -0.25, -0.0);
        snapped(3, -0.75, -0.0, 0.75, 0.0);
        snapped(3, 0.75, 0.0, -0.75, -0.0);
        done("steps", t.steps(b(HUGE), f(HUGEF)));
        for (int way = 0; way < 4; way++) {
            // Here the quotient is a 0 already.
            snapped(way, -TINY, -0.0, TINYF, 0.0);
            snapped(way, TINY, 0.0, -TINYF, -0.0);
        }
    }

    private static void firstOfThese() {
        terms("the first of these that holds");
        long noX = NO_XS[0];
        int noY = NO_YS[0];
        due("1 ahead of 2 and 3", t.place(8, noX, f(INF)), 1);
        due("2 ahead of 3", t.place(0, b(INF), noY), 2);
        due("2 ahead of 3", t.place(0, noX, f(INF)), 2);
        due("2 ahead of 4", t.walls(noX, b(-INF)), 2);
        due("2 ahead of 4", t.rails(f(INF), noY), 2);
        due("2 ahead of 3 and 4", t.steps(b(-INF), noY), 2);
        due("2 ahead of 4", t.steps(noX, f(-1)), 2);
        due("3 ahead of 4", t.steps(b(INF), f(-1)), 3);
        due("3 ahead of 4", t.steps(b(-1), f(INF)), 3);
        due("1 ahead of 2", t.move(-1, noX, noY), 1);
        due("1 ahead of 5", t.move(8, b(INF), f(0)), 1);
        due("2 ahead of 5", t.move(0, b(INF), noY), 2);
        due("1 ahead of 2", t.swing(8, noX), 1);
        due("1 ahead of 3", t.swing(-1, b(INF)), 1);
        due("1 ahead of 5", t.swing(8, b(HUGE)), 1);
        due("1 ahead of 2", t.guide(4, noX), 1);
        due("1 ahead of 2", t.stick(8, noX), 1);
        due("1 ahead of 4", t.stick(8, b(-1)), 1);
        due("1 ahead of 6", t.stick(8, b(1)), 1);
        due("2 ahead of 6", t.stick(0, noX), 2);
        due("4 ahead of 6", t.stick(0, b(-1)), 4);
        done("steps", t.steps(b(TINY), f(1)));
        put(0, 1, 1);
        due("1 ahead of 5", t.snap(0, 4), 1);
        due("5", t.snap(0, 3), 5);
        counts(2, 23, 0, 1);
    }

    /** A table of which everything that can be told was told, so that a change would show. */
    private static void toldTable() {
        done("walls", t.walls(b(-20), b(INF)));
        done("rails", t.rails(f(-INF), f(30)));
        done("steps", t.steps(b(2), f(4)));
        done("guide", t.guide(0, b(3)));
        put(0, 9, 9);
        put(0, 10, 12);
    }

    private static void asToldTable(int refusals) {
        counts(6, refusals, 0, 2);
        at(0, 10, 12);
        due("STEP", t.cell(0), 5);
        due("GRAIN", t.mark(0), 3);
        done("stick to the guide", t.stick(0, b(7)));
        at(0, 3, 12);
        put(1, -90, 90);
        at(1, -20, 30);
        put(1, 90, -90);
        at(1, 90, -90);
        for (int k : new int[] {1, 1, 0}) {
            due("undo", t.undo(), k);
        }
        due("undo", t.undo(), 0);
        at(0, 9, 9);
        due("undo", t.undo(), 0);
        at(0, 0, 0);
        due("undo", t.undo(), NONE);
    }

    private static void refusedOnesChangeNothing() {
        terms("else, changing nothing (but the count of refusals)");
        toldTable();
        due("place", t.place(0, b(5), f(INF)), 3);
        due("place", t.place(0, b(INF), f(5)), 3);
        due("walls", t.walls(b(5), b(5)), 4);
        due("walls", t.walls(b(5), NO_XS[0]), 2);
        due("rails", t.rails(f(5), f(5)), 4);
        due("rails", t.rails(NO_YS[0], f(5)), 2);
        due("steps", t.steps(b(5), f(0)), 4);
        due("steps", t.steps(b(0), f(5)), 4);
        due("move", t.move(0, b(1), f(-INF)), 5);
        due("move", t.move(0, b(INF), f(1)), 5);
        due("snap", t.snap(0, 4), 1);
        due("lean", t.lean(0, 8), 1);
        due("pull", t.pull(0, 1, 2), 1);
        due("swing", t.swing(0, b(HUGE)), 5);
        due("guide", t.guide(0, NO_XS[0]), 2);
        due("stick", t.stick(0, b(6)), 6);
        asToldTable(16);
    }

    private static void workedOutAhead() {
        terms("All of a point's x and y is worked out ahead of any change");
        put(0, 1, 2);
        due("the y is infinite", t.move(0, b(5), f(INF)), 5);
        due("the x is infinite", t.move(0, b(INF), f(5)), 5);
        at(0, 1, 2);
        done("steps", t.steps(b(4), f(TINYF)));
        due("the y is infinite", t.snap(0, 1), 5);
        done("steps", t.steps(b(TINY), f(4)));
        due("the x is infinite", t.snap(0, 1), 5);
        due("the x is infinite", t.swing(0, b(HUGE)), 5);
        at(0, 1, 2);
        counts(3, 5, 0, 1);
        put(2, -3, -4);
        done("lean of a point on itself", t.lean(2, 2));
        done("pull of a point to itself", t.pull(2, 2, 0));
        at(2, -3, -4);
    }

    private static void metOnlyWhenDone() {
        terms("it MEETS walls only with an act that is done.");
        done("walls", t.walls(b(-5), b(5)));
        due("the x would meet one", t.move(0, b(9), f(INF)), 5);
        done("walls", t.walls(b(-INF), b(INF)));
        done("rails", t.rails(f(-5), f(5)));
        due("the y would meet one", t.move(0, b(INF), f(9)), 5);
        due("the y would meet one", t.move(0, b(-INF), f(-INF)), 5);
        due("met", t.count(2), 0);
        done("the y meets one", t.move(0, b(1), f(-INF)));
        due("met", t.count(2), 1);
    }

    private static void trailOfSixteen() {
        terms("THE TRAIL keeps, of the latest 16 .. that were done, the point and its x and y ahead of it");
        for (int i = 1; i <= 16; i++) {
            put(i % 8, i, -i);
        }
        due("it is full", t.count(3), 16);
        put(1, 17, -17);
        due("it stays full", t.count(3), 16);
        due("undo", t.undo(), 1);
        at(1, 9, -9);
        for (int i = 16; i >= 2; i--) {
            due("undo", t.undo(), i % 8);
        }
        due("the first is forgotten", t.undo(), NONE);
        at(1, 1, -1);
        at(2, 0, 0);
    }

    private static void trailGoesRound() {
        terms("THE TRAIL keeps, of the latest 16", "some undone between");
        for (int i = 1; i <= 14; i++) {
            put(0, i, -i);
        }
        for (int i = 14; i > 11; i--) {
            due("undo", t.undo(), 0);
        }
        for (int i = 12; i <= 40; i++) {
            put(0, i, -i);
        }
        due("it is full", t.count(3), 16);
        for (int i = 39; i >= 24; i--) {
            due("undo", t.undo(), 0);
            at(0, i, -i);
        }
        due("undo", t.undo(), NONE);
        at(0, 24, -24);
    }

    private static void trailOfWhichActs() {
        terms("place, move, snap, lean, pull, swing and stick that were done");
        done("guide", t.guide(0, b(1)));
        done("steps", t.steps(b(2), f(2)));
        due("guide and steps aren't kept", t.count(3), 0);
        put(0, 1, 1);
        due("place", t.count(3), 1);
        t.move(0, b(1), f(1));
        due("move", t.count(3), 2);
        t.snap(0, 0);
        due("snap", t.count(3), 3);
        t.lean(0, 1);
        due("lean", t.count(3), 4);
        t.pull(0, 1, 0);
        due("pull", t.count(3), 5);
        t.swing(0, b(1));
        due("swing", t.count(3), 6);
        t.stick(0, b(INF));
        due("stick", t.count(3), 7);
        t.place(0, b(INF), 0);
        t.move(0, b(INF), 0);
        t.snap(0, 4);
        t.lean(0, 8);
        t.pull(0, 0, 2);
        t.swing(0, b(INF));
        t.stick(0, b(-1));
        due("refused ones aren't kept", t.count(3), 7);
    }

    private static void trailOfNothing() {
        terms("(also when nothing became another)");
        put(0, 0, 0);
        done("move", t.move(1, b(0.0), f(0.0)));
        done("snap", t.snap(2, 0));
        done("lean", t.lean(3, 4));
        done("pull", t.pull(4, 5, 0));
        done("swing", t.swing(5, b(0.0)));
        done("guide", t.guide(1, b(0.0)));
        done("stick", t.stick(6, b(0.0)));
        due("all are kept", t.count(3), 7);
        for (int k = 6; k >= 0; k--) {
            due("undo", t.undo(), k);
            at(k, 0.0, 0.0);
        }
    }

    private static void noneIsMinusOne() {
        terms("`NONE = -1`: There is none.");
        due("NONE", SnapTable.NONE, -1);
        due("undo", t.undo(), -1);
        due("neighbour", t.neighbour(8), -1);
        due("count", t.count(4), -1);
    }
}
