/** Each sentence of the promises that names a boundary case, with a test of its own. */
public final class BoundariesTest extends Desk {
    private static final int[] NO_WAYS = {-1, 4, 5, Integer.MIN_VALUE, Integer.MAX_VALUE};

    public static void main(String[] args) throws ReflectiveOperationException {
        runAll(BoundariesTest.class);
    }

    private static void promise(int number, String sentence) {
        fresh("Promise " + number + ": '" + sentence + "'");
    }

    private static void promise(int number, String sentence, String where) {
        fresh("Promise " + number + ": '" + sentence + "', " + where);
    }

    /** Each point at another place, those of the even ones below 0. */
    private static void scatter() {
        for (int k = 0; k < 8; k++) {
            double sign = k % 2 == 0 ? -1 : 1;
            put(k, sign * (10 + k), -sign * (20 + k));
        }
    }

    private static void p1Empty() {
        promise(1, "The table as told; no TRAIL, all counts 0.");
        counts(0, 0, 0, 0);
        due("undo", t.undo(), NONE);
        counts(0, 0, 0, 0);
        due("cell", t.cell(7), 0);
        due("mark", t.mark(7), 0);
        due("edge", t.edge(0), 0);
        due("rim", t.rim(1), 0);
        due("neighbour", t.neighbour(0), 1);
    }

    private static void p1Tables() {
        promise(1, "The table as told", "whatever was told to another");
        done("walls", t.walls(b(1), b(2)));
        done("rails", t.rails(f(1), f(2)));
        done("steps", t.steps(b(8), f(8)));
        done("guide", t.guide(0, b(1)));
        put(0, 2, 2);
        t = new SnapTable();
        counts(0, 0, 0, 0);
        due("the guide", t.stick(0, b(INF)), 6);
        put(0, -9, 9);
        at(0, -9, 9);
        due("STEP", t.cell(0), -9);
        due("GRAIN", t.mark(0), 9);
    }

    private static void p2Infinite() {
        promise(2, "(3: infinite ones)");
        done("walls", t.walls(b(-1), b(1)));
        done("rails", t.rails(f(-1), f(1)));
        for (double infinite : new double[] {INF, -INF}) {
            due("x " + infinite, t.place(0, b(infinite), f(1)), 3);
            due("y " + infinite, t.place(0, b(1), f(infinite)), 3);
            due("both " + infinite, t.place(0, b(infinite), f(infinite)), 3);
        }
        at(0, 0, 0);
        counts(2, 6, 0, 0);
    }

    private static void p2Walled() {
        promise(2, "and is walled.");
        done("walls", t.walls(b(-1), b(2)));
        done("rails", t.rails(f(-3), f(4)));
        put(0, HUGE, -HUGEF);
        at(0, 2, -3);
        put(7, -HUGE, HUGEF);
        at(7, -1, 4);
        due("met", t.count(2), 4);
    }

    private static void p2NoSuchPoint() {
        promise(2, "1 there is no such point");
        for (int k : NO_POINTS) {
            due("place " + k, t.place(k, b(1), f(1)), 1);
        }
        counts(0, NO_POINTS.length, 0, 0);
    }

    private static void p3MayBeInfinite() {
        promise(3, "(they may be infinite ..");
        scatter();
        done("both", t.walls(b(-INF), b(INF)));
        due("met", t.count(2), 0);
        done("LEFT", t.walls(b(-INF), b(0)));
        at(1, 0, -21);
        at(0, -10, 20);
        done("RIGHT", t.walls(b(0), b(INF)));
        at(0, 0, 20);
        done("the least RIGHT", t.walls(b(-INF), b(-HUGE)));
        at(3, -HUGE, -23);
        done("the greatest LEFT", t.walls(b(HUGE), b(INF)));
        at(3, HUGE, -23);
    }

    private static void p3NotBelow() {
        promise(3, "4: the first isn't below the second");
        due("alike", t.walls(b(1), b(1)), 4);
        due("above by one bit", t.walls(b(1) + 1, b(1)), 4);
        due("above, both below 0", t.walls(b(-1), b(-1) + 1), 4);
        due("infinite", t.walls(b(INF), b(INF)), 4);
        due("-infinite", t.walls(b(-INF), b(-INF)), 4);
        due("turned infinite", t.walls(b(INF), b(-INF)), 4);
        due("infinite LEFT", t.walls(b(INF), b(HUGE)), 4);
        due("-infinite RIGHT", t.walls(b(-HUGE), b(-INF)), 4);
        counts(0, 8, 0, 0);
        done("below by one bit", t.walls(b(1), b(1) + 1));
        done("below by one bit, below 0", t.walls(b(-1) + 1, b(-1)));
        at(0, -1, 0);
    }

    private static void p3ZerosAlike() {
        promise(3, "-0 and 0 are alike here");
        due("-0, 0", t.walls(b(-0.0), b(0.0)), 4);
        due("0, -0", t.walls(b(0.0), b(-0.0)), 4);
        due("0, 0", t.walls(b(0.0), b(0.0)), 4);
        due("-0, -0", t.walls(b(-0.0), b(-0.0)), 4);
        done("0 and the least", t.walls(b(0.0), b(TINY)));
        done("-0 and the least", t.walls(b(-0.0), b(TINY)));
        done("the least and 0", t.walls(b(-TINY), b(0.0)));
        done("the least and -0", t.walls(b(-TINY), b(-0.0)));
        at(0, -0.0, 0.0);
    }

    private static void p3AllWalled() {
        promise(3, "Then all points' x are walled");
        scatter();
        done("walls", t.walls(b(-11), b(12)));
        double[] xs = {-10, 11, -11, 12, -11, 12, -11, 12};
        for (int k = 0; k < 8; k++) {
            at(k, xs[k], k % 2 == 0 ? 20 + k : -20 - k);
        }
        due("met", t.count(2), 6);
        done("walls again", t.walls(b(-11), b(12)));
        due("met no more", t.count(2), 6);
    }

    private static void p3TrailEmpty() {
        promise(3, "and the TRAIL is empty.");
        put(0, 1, 1);
        due("refused", t.walls(b(2), b(1)), 4);
        due("a refused one leaves it", t.count(3), 1);
        done("walls", t.walls(b(-INF), b(INF)));
        due("count", t.count(3), 0);
        due("undo", t.undo(), NONE);
        at(0, 1, 1);
        put(0, 2, 2);
        due("undo", t.undo(), 0);
        at(0, 1, 1);
        due("undo", t.undo(), NONE);
    }

    private static void p4MayBeInfinite() {
        promise(4, "LOW and HIGH likewise, with y's.", "infinite ones");
        scatter();
        done("both", t.rails(f(-INF), f(INF)));
        due("met", t.count(2), 0);
        done("LOW", t.rails(f(-INF), f(0)));
        at(0, -10, 0);
        at(1, 11, -21);
        done("HIGH", t.rails(f(0), f(INF)));
        at(1, 11, 0);
        done("the least HIGH", t.rails(f(-INF), f(-HUGEF)));
        at(3, 13, -HUGEF);
        done("the greatest LOW", t.rails(f(HUGEF), f(INF)));
        at(3, 13, HUGEF);
    }

    private static void p4NotBelow() {
        promise(4, "LOW and HIGH likewise, with y's.", "4: the first isn't below the second");
        due("alike", t.rails(f(1), f(1)), 4);
        due("above by one bit", t.rails(f(1) + 1, f(1)), 4);
        due("above, both below 0", t.rails(f(-1), f(-1) + 1), 4);
        due("infinite", t.rails(f(INF), f(INF)), 4);
        due("-infinite", t.rails(f(-INF), f(-INF)), 4);
        due("turned infinite", t.rails(f(INF), f(-INF)), 4);
        due("infinite LOW", t.rails(f(INF), f(HUGEF)), 4);
        due("-infinite HIGH", t.rails(f(-HUGEF), f(-INF)), 4);
        counts(0, 8, 0, 0);
        done("below by one bit", t.rails(f(1), f(1) + 1));
        done("below by one bit, below 0", t.rails(f(-1) + 1, f(-1)));
        at(0, 0, -1);
    }

    private static void p4ZerosAlike() {
        promise(4, "LOW and HIGH likewise, with y's.", "-0 and 0 are alike");
        due("-0, 0", t.rails(f(-0.0), f(0.0)), 4);
        due("0, -0", t.rails(f(0.0), f(-0.0)), 4);
        due("0, 0", t.rails(f(0.0), f(0.0)), 4);
        due("-0, -0", t.rails(f(-0.0), f(-0.0)), 4);
        done("0 and the least", t.rails(f(0.0), f(TINYF)));
        done("-0 and the least", t.rails(f(-0.0), f(TINYF)));
        done("the least and 0", t.rails(f(-TINYF), f(0.0)));
        done("the least and -0", t.rails(f(-TINYF), f(-0.0)));
        at(0, 0.0, -0.0);
    }

    private static void p4AllWalledTrailEmpty() {
        promise(4, "LOW and HIGH likewise, with y's.", "all points' y are walled, the TRAIL is empty");
        scatter();
        due("refused", t.rails(f(2), f(1)), 4);
        due("a refused one leaves the TRAIL", t.count(3), 8);
        done("rails", t.rails(f(-23), f(22)));
        double[] ys = {20, -21, 22, -23, 22, -23, 22, -23};
        for (int k = 0; k < 8; k++) {
            at(k, k % 2 == 0 ? -10 - k : 10 + k, ys[k]);
        }
        due("met", t.count(2), 4);
        due("count", t.count(3), 0);
        due("undo", t.undo(), NONE);
    }

    private static void p5Infinite() {
        promise(5, "(3: infinite ones");
        due("STEP", t.steps(b(INF), f(1)), 3);
        due("STEP", t.steps(b(-INF), f(1)), 3);
        due("GRAIN", t.steps(b(1), f(INF)), 3);
        due("GRAIN", t.steps(b(1), f(-INF)), 3);
        done("the greatest", t.steps(b(HUGE), f(HUGEF)));
        counts(1, 4, 0, 0);
    }

    private static void p5NotAboveZero() {
        promise(5, "4: one isn't above 0");
        put(0, 6, 6);
        done("steps", t.steps(b(2), f(3)));
        for (double no : new double[] {0.0, -0.0, -TINYF, -1, -HUGEF}) {
            due("STEP " + no, t.steps(b(no), f(1)), 4);
            due("GRAIN " + no, t.steps(b(1), f(no)), 4);
            due("both " + no, t.steps(b(no), f(no)), 4);
        }
        due("the least below 0", t.steps(b(-TINY), f(1)), 4);
        due("STEP stays", t.cell(0), 3);
        due("GRAIN stays", t.mark(0), 2);
        done("the least above 0", t.steps(b(TINY), f(TINYF)));
    }

    private static void p6MayBeInfinite() {
        promise(6, "(these may be infinite)");
        due("dx", t.move(0, b(INF), f(0)), 5);
        due("dx", t.move(0, b(-INF), f(0)), 5);
        due("dy", t.move(0, b(0), f(INF)), 5);
        due("dy", t.move(0, b(0), f(-INF)), 5);
        done("walls", t.walls(b(-3), b(INF)));
        done("rails", t.rails(f(-INF), f(4)));
        done("to the walls", t.move(0, b(-INF), f(INF)));
        at(0, -3, 4);
        counts(3, 4, 2, 1);
        due("where no wall is", t.move(0, b(INF), f(0)), 5);
        due("where no wall is", t.move(0, b(0), f(-INF)), 5);
        at(0, -3, 4);
    }

    private static void p6TooLarge() {
        promise(6, "A point's x becomes the sum .. then it is walled (5).");
        put(0, HUGE, HUGEF);
        done("a sum that is rounded to the greatest", t.move(0, b(0x1.fffffffffffffp969), f(0x1.fffffep102)));
        at(0, HUGE, HUGEF);
        due("a sum that is rounded to the infinite", t.move(0, b(0x1p970), f(0)), 5);
        due("a sum that is rounded to the infinite", t.move(0, b(0), f(0x1p103)), 5);
        at(0, HUGE, HUGEF);
        put(1, -HUGE, -HUGEF);
        due("below all", t.move(1, b(-0x1p970), f(0)), 5);
        due("below all", t.move(1, b(0), f(-0x1p103)), 5);
        done("walls", t.walls(b(-9), b(8)));
        done("rails", t.rails(f(-7), f(6)));
        done("between walls", t.move(0, b(HUGE), f(HUGEF)));
        done("between walls", t.move(0, b(HUGE), f(-HUGEF)));
        at(0, 8, -7);
    }

    private static void p6Zeros() {
        promise(6, "A point's x becomes the sum of it and dx, its y of it and dy", "zeros");
        double[][] rows = {
            {0.0, 0.0, 0.0}, {0.0, -0.0, 0.0}, {-0.0, 0.0, 0.0}, {-0.0, -0.0, -0.0}, {1, -1, 0.0}, {-1, 1, 0.0},
        };
        for (double[] row : rows) {
            put(0, row[0], row[0]);
            done("move " + row[0] + " by " + row[1], t.move(0, b(row[1]), f(row[1])));
            at(0, row[2], row[2]);
        }
    }

    private static void p7TooLarge() {
        promise(7, "then it is walled (5).");
        put(0, HUGE, HUGEF);
        done("steps", t.steps(b(0.5), f(1)));
        due("an infinite quotient of x's", t.snap(0, 0), 5);
        done("steps", t.steps(b(1), f(0.5)));
        due("an infinite quotient of y's", t.snap(0, 0), 5);
        done("steps", t.steps(b(0x1.8p1023), f(1)));
        due("an infinite product of x's", t.snap(0, 1), 5);
        done("steps", t.steps(b(1), f(0x1.8p127)));
        due("an infinite product of y's", t.snap(0, 1), 5);
        at(0, HUGE, HUGEF);
        counts(5, 4, 0, 1);
        done("steps", t.steps(b(0x1.8p1023), f(0x1.8p127)));
        done("DOWN", t.snap(0, 0));
        at(0, 0x1.8p1023, 0x1.8p127);
    }

    private static void p7Walled() {
        promise(7, "then it is walled");
        done("walls", t.walls(b(-2.5), b(2.5)));
        done("rails", t.rails(f(-3.5), f(3.5)));
        put(0, 2.25, -3.25);
        done("UP", t.snap(0, 1));
        at(0, 2.5, -3);
        due("met", t.count(2), 1);
        put(0, -2.25, -3.25);
        done("DOWN", t.snap(0, 0));
        at(0, -2.5, -3.5);
        due("met", t.count(2), 3);
    }

    private static void p7NoSuch() {
        promise(7, "1 there is no such point .. or way");
        put(0, 1.5, 1.5);
        for (int k : NO_POINTS) {
            due("point " + k, t.snap(k, 0), 1);
        }
        for (int way : NO_WAYS) {
            due("way " + way, t.snap(0, way), 1);
        }
        at(0, 1.5, 1.5);
        counts(1, NO_POINTS.length + NO_WAYS.length, 0, 1);
    }

    private static void p8Zeros() {
        promise(8, "has the sign of the x of point j (also a 0 has one)");
        put(0, 3, -4);
        put(1, -0.0, 0.0);
        done("lean on zeros", t.lean(0, 1));
        at(0, -3, 4);
        put(2, 5, -6);
        done("lean of zeros", t.lean(1, 2));
        at(1, 0.0, -0.0);
        done("lean on zeros", t.lean(0, 1));
        at(0, 3, -4);
        at(2, 5, -6);
        put(3, HUGE, TINYF);
        put(4, -TINY, -HUGEF);
        done("lean of the greatest and the least", t.lean(3, 4));
        at(3, -HUGE, -TINYF);
    }

    private static void p8Walled() {
        promise(8, "then it is walled.");
        put(0, 3, 4);
        put(1, -1, -1);
        done("walls", t.walls(b(-2), b(3)));
        done("rails", t.rails(f(-1), f(4)));
        done("lean", t.lean(0, 1));
        at(0, -2, -1);
        due("met", t.count(2), 2);
        due("undo", t.undo(), 0);
        at(0, 3, 4);
    }

    private static void p8NoSuch() {
        promise(8, "1 there is no such point");
        for (int no : NO_POINTS) {
            due("point " + no, t.lean(no, 0), 1);
            due("other point " + no, t.lean(0, no), 1);
            due("both " + no, t.lean(no, no), 1);
        }
        counts(0, 3 * NO_POINTS.length, 0, 0);
    }

    private static void p9Ways() {
        promise(9, "way 0, the greater ones of its and those of point j, way 1, the lesser ones.");
        put(0, -0.0, 0.0);
        put(1, 0.0, -0.0);
        done("pull", t.pull(0, 1, 0));
        at(0, 0.0, 0.0);
        at(1, 0.0, -0.0);
        done("pull", t.pull(1, 0, 1));
        at(1, 0.0, -0.0);
        put(2, -0.0, 7);
        done("pull", t.pull(0, 2, 1));
        at(0, -0.0, 0.0);
        put(3, -HUGE, HUGEF);
        done("pull", t.pull(2, 3, 0));
        at(2, -0.0, HUGEF);
        done("pull", t.pull(2, 3, 1));
        at(2, -HUGE, HUGEF);
    }

    private static void p9NoSuch() {
        promise(9, "1 there is no such point .. or way");
        put(0, 1, 1);
        for (int no : NO_POINTS) {
            due("point " + no, t.pull(no, 0, 0), 1);
            due("other point " + no, t.pull(0, no, 1), 1);
        }
        for (int no : NO_ENDS) {
            due("way " + no, t.pull(0, 1, no), 1);
        }
        at(0, 1, 1);
        counts(1, 2 * NO_POINTS.length + NO_ENDS.length, 0, 1);
    }

    private static void p10Infinite() {
        promise(10, "(3: that x is infinite");
        done("walls", t.walls(b(-1), b(1)));
        due("swing", t.swing(0, b(INF)), 3);
        due("swing", t.swing(0, b(-INF)), 3);
        at(0, 0.0, 0.0);
        counts(1, 2, 0, 0);
    }

    private static void p10TooLarge() {
        promise(10, "A point's x becomes the difference of twice an x (the sum of it and itself) and its own .. 5.");
        done("twice is the greatest", t.swing(0, b(0x1.fffffffffffffp1022)));
        at(0, HUGE, -0.0);
        due("twice is infinite, though the difference wouldn't be", t.swing(0, b(0x1p1023)), 5);
        due("the difference is infinite", t.swing(0, b(-0x1p1022)), 5);
        put(1, -0x1.fffffffffffffp969, 1);
        done("rounded to the greatest", t.swing(1, b(0x1.fffffffffffffp1022)));
        at(1, HUGE, -1);
        put(1, -0x1p970, 1);
        due("rounded to the infinite", t.swing(1, b(0x1.fffffffffffffp1022)), 5);
        at(1, -0x1p970, 1);
        counts(4, 3, 0, 4);
    }

    private static void p10Zeros() {
        promise(10, "its y has the other sign");
        double[][] rows = {
            {0.0, 0.0, 0.0}, {-0.0, 0.0, 0.0}, {0.0, -0.0, -0.0}, {-0.0, -0.0, 0.0}, {4, 2, 0.0}, {-4, -2, 0.0},
        };
        for (double[] row : rows) {
            put(0, row[0], row[0]);
            done("swing " + row[0] + " about " + row[1], t.swing(0, b(row[1])));
            at(0, row[2], -row[0]);
        }
        put(0, 1, TINYF);
        done("swing", t.swing(0, b(1)));
        at(0, 1, -TINYF);
        put(0, 1, -HUGEF);
        done("swing", t.swing(0, b(1)));
        at(0, 1, HUGEF);
    }

    private static void p10Walled() {
        promise(10, "then it is walled.");
        done("walls", t.walls(b(-5), b(6)));
        done("rails", t.rails(f(0.0), f(7)));
        put(0, 1, 2);
        done("swing", t.swing(0, b(4)));
        at(0, 6, 0.0);
        due("met", t.count(2), 2);
        done("an infinite one to the wall", t.swing(0, b(-HUGE)));
        at(0, -5, 0.0);
        due("the y -0 met LOW", t.count(2), 4);
    }

    private static void p10NoSuch() {
        promise(10, "1 there is no such point");
        for (int no : NO_POINTS) {
            due("point " + no, t.swing(no, b(1)), 1);
        }
        counts(0, NO_POINTS.length, 0, 0);
    }

    private static void p11Infinite() {
        promise(11, "with an infinite one it is OFF.");
        for (double infinite : new double[] {INF, -INF}) {
            for (int g = 0; g < 4; g++) {
                done("guide", t.guide(g, b(g)));
                done("stick", t.stick(0, b(INF)));
                done("guide OFF", t.guide(g, b(infinite)));
                due("stick", t.stick(0, b(INF)), 6);
            }
        }
        done("OFF again", t.guide(0, b(INF)));
        done("the greatest", t.guide(1, b(HUGE)));
        done("stick", t.stick(0, b(INF)));
        at(0, HUGE, 0);
        done("the least", t.guide(1, b(-HUGE)));
        done("stick", t.stick(0, b(INF)));
        at(0, -HUGE, 0);
    }

    private static void p11NoSuch() {
        promise(11, "1 there is no such .. guide");
        for (int g : NO_WAYS) {
            due("guide " + g, t.guide(g, b(1)), 1);
            due("guide " + g + " OFF", t.guide(g, b(INF)), 1);
        }
        due("stick", t.stick(0, b(INF)), 6);
        counts(0, 2 * NO_WAYS.length + 1, 0, 0);
    }

    private static void p11BehindWalls() {
        promise(11, "A guide is at an x", "behind a wall too");
        done("walls", t.walls(b(-1), b(1)));
        done("guide", t.guide(0, b(5)));
        done("walls", t.walls(b(-INF), b(INF)));
        done("stick", t.stick(0, b(5)));
        at(0, 5, 0);
    }

    private static void p12NoGuide() {
        promise(12, "Of the guides that aren't OFF the one .. else 6.");
        due("all are OFF", t.stick(0, b(INF)), 6);
        due("all are OFF", t.stick(0, b(0.0)), 6);
        for (int g = 0; g < 4; g++) {
            done("guide", t.guide(g, b(4 - g)));
            done("guides beside it", t.stick(g, b(4 - g)));
            at(g, 4 - g, 0);
        }
        done("the nearest OFF", t.guide(3, b(INF)));
        due("the next one isn't near", t.stick(7, b(1)), 6);
        done("the next one", t.stick(7, b(2)));
        at(7, 2, 0);
    }

    private static void p12Lowest() {
        promise(12, "is least (of several the lowest)");
        done("guide", t.guide(3, b(-5)));
        done("guide", t.guide(2, b(5)));
        done("stick", t.stick(0, b(5)));
        at(0, 5, 0);
        done("guide", t.guide(1, b(-5)));
        done("stick", t.stick(1, b(5)));
        at(1, -5, 0);
        done("guide", t.guide(0, b(6)));
        done("a lower one that is farther", t.stick(2, b(INF)));
        at(2, -5, 0);
        done("guide", t.guide(0, b(5)));
        done("stick", t.stick(3, b(INF)));
        at(3, 5, 0);
    }

    private static void p12LowestZero() {
        promise(12, "is least (of several the lowest)", "-0 and 0");
        done("guide", t.guide(1, b(-0.0)));
        done("guide", t.guide(2, b(0.0)));
        done("stick", t.stick(0, b(0.0)));
        at(0, -0.0, 0);
        done("guide", t.guide(0, b(0.0)));
        done("stick", t.stick(0, b(0.0)));
        at(0, 0.0, 0);
    }

    private static void p12NotAboveReach() {
        promise(12, "if that isn't above reach: the point's x becomes the guide's, walled; else 6.");
        done("guide", t.guide(0, b(3)));
        due("above by one bit", t.stick(0, b(Math.nextDown(3.0))), 6);
        at(0, 0, 0);
        done("alike", t.stick(0, b(3)));
        at(0, 3, 0);
        done("no difference, no reach", t.stick(0, b(0.0)));
        put(0, Math.nextUp(3.0), 1);
        due("the least difference, no reach", t.stick(0, b(0.0)), 6);
        due("a little less than the difference", t.stick(0, b(Math.nextDown(0x1p-51))), 6);
        done("the least difference", t.stick(0, b(0x1p-51)));
        at(0, 3, 1);
        counts(5, 3, 0, 4);
    }

    private static void p12BelowZero() {
        promise(12, "(4: reach is below 0; -0 isn't. ..");
        done("guide", t.guide(0, b(0.0)));
        due("-infinite", t.stick(0, b(-INF)), 4);
        due("below", t.stick(0, b(-1)), 4);
        due("the least below", t.stick(0, b(-TINY)), 4);
        done("-0", t.stick(0, b(-0.0)));
        put(0, TINY, 0);
        due("-0 is no more than 0", t.stick(0, b(-0.0)), 6);
        done("the least above", t.stick(0, b(TINY)));
        at(0, 0.0, 0.0);
        counts(4, 4, 0, 3);
    }

    private static void p12InfiniteReach() {
        promise(12, "It may be infinite.)");
        put(0, -HUGE, 0);
        done("guide", t.guide(1, b(HUGE)));
        due("the difference is infinite", t.stick(0, b(HUGE)), 6);
        done("the difference isn't above reach", t.stick(0, b(INF)));
        at(0, HUGE, 0);
        put(0, -HUGE, 0);
        done("guide", t.guide(3, b(0)));
        done("the difference of a higher one is less", t.stick(0, b(INF)));
        at(0, 0, 0);
        put(0, -HUGE, 0);
        done("guide", t.guide(3, b(HUGE / 2)));
        done("of several infinite ones the lowest", t.stick(0, b(INF)));
        at(0, HUGE, 0);
    }

    private static void p12Walled() {
        promise(12, "the point's x becomes the guide's, walled");
        done("guide", t.guide(0, b(9)));
        done("walls", t.walls(b(-4), b(5)));
        put(0, 5, -3);
        done("a wall is between", t.stick(0, b(4)));
        at(0, 5, -3);
        counts(4, 0, 1, 2);
        done("guide", t.guide(0, b(-9)));
        done("a wall is between", t.stick(0, b(14)));
        at(0, -4, -3);
        due("met", t.count(2), 2);
    }

    private static void p12NoSuch() {
        promise(12, "1 there is no such point");
        done("guide", t.guide(0, b(0)));
        for (int no : NO_POINTS) {
            due("point " + no, t.stick(no, b(1)), 1);
        }
        counts(1, NO_POINTS.length, 0, 0);
    }

    private static void p13Without() {
        promise(13, "NONE without one.");
        due("undo", t.undo(), NONE);
        put(0, 1, 1);
        due("undo", t.undo(), 0);
        due("undo", t.undo(), NONE);
        due("undo", t.undo(), NONE);
        at(0, 0, 0);
        counts(1, 0, 0, 0);
        put(5, 1, 1);
        due("undo", t.undo(), 5);
    }

    private static void p13KeptOnes() {
        promise(13, "its point has the x and y again that are kept there: which point.");
        put(3, -0.0, TINYF);
        put(3, -TINY, -0.0);
        put(4, HUGE, -HUGEF);
        put(4, 0.0, 0.0);
        due("undo", t.undo(), 4);
        at(4, HUGE, -HUGEF);
        due("undo", t.undo(), 4);
        at(4, 0.0, 0.0);
        due("undo", t.undo(), 3);
        at(3, -0.0, TINYF);
        due("undo", t.undo(), 3);
        at(3, 0.0, 0.0);
    }

    private static void p13NoAct() {
        promise(13, "(This is no act: no count grows.)");
        done("walls", t.walls(b(-1), b(1)));
        put(0, 9, 9);
        counts(2, 0, 1, 1);
        due("undo", t.undo(), 0);
        counts(2, 0, 1, 0);
        due("undo", t.undo(), NONE);
        counts(2, 0, 1, 0);
    }

    private static void p14And15NoSuch() {
        promise(14, "0 for no such point (so in what follows).");
        scatter();
        for (int no : NO_POINTS) {
            due("x " + no, t.x(no), 0);
            due("y " + no, t.y(no), 0);
            due("side " + no, t.side(no), 0);
            due("lift " + no, t.lift(no), 0);
            due("cell " + no, t.cell(no), 0);
            due("mark " + no, t.mark(no), 0);
            for (int k : new int[] {0, 7, no}) {
                due("far " + no, t.far(no, k), 0);
                due("far to " + no, t.far(k, no), 0);
                due("gap " + no, t.gap(no, k), 0);
                due("gap to " + no, t.gap(k, no), 0);
                due("rise " + no, t.rise(no, k), 0);
                due("rise to " + no, t.rise(k, no), 0);
            }
        }
        due("no act is refused", t.count(1), 0);
    }

    private static void p14And15Bits() {
        promise(14, "A point's x by its bits", "and its y, promise 15");
        long[] xs = {0, 1, 2, 0x000fffffffffffffL, 0x0010000000000000L, 0x0010000000000001L, 0x001fffffffffffffL,
            0x3fefffffffffffffL, 0x3ff0000000000000L, 0x3ff0000000000001L, 0x7fe0000000000000L, 0x7fefffffffffffffL};
        int[] ys = {0, 1, 2, 0x007fffff, 0x00800000, 0x00800001, 0x00ffffff,
            0x3f7fffff, 0x3f800000, 0x3f800001, 0x7f000000, 0x7f7fffff};
        for (int i = 0; i < xs.length; i++) {
            done("place", t.place(0, xs[i], ys[i] | 0x80000000));
            due("x", t.x(0), xs[i]);
            due("y", t.y(0), ys[i] | 0x80000000);
            done("place", t.place(0, xs[i] | 0x8000000000000000L, ys[i]));
            due("x", t.x(0), xs[i] | 0x8000000000000000L);
            due("y", t.y(0), ys[i]);
        }
    }

    private static void p16Zero() {
        promise(16, "1 with the sign of a point's x, or that x, if it is a 0: by its bits.");
        double[][] rows = {
            {0.0, 0.0}, {-0.0, -0.0}, {TINY, 1}, {-TINY, -1}, {HUGE, 1}, {-HUGE, -1}, {1, 1}, {-1, -1},
        };
        for (double[] row : rows) {
            put(6, row[0], 5);
            due("side of " + row[0], t.side(6), b(row[1]));
        }
    }

    private static void p17Zero() {
        promise(17, "The same of a point's y.");
        double[][] rows = {
            {0.0, 0.0}, {-0.0, -0.0}, {TINYF, 1}, {-TINYF, -1}, {HUGEF, 1}, {-HUGEF, -1}, {1, 1}, {-1, -1},
        };
        for (double[] row : rows) {
            put(6, 5, row[0]);
            due("lift of " + row[0], t.lift(6), f(row[1]));
        }
    }

    private static void p18Infinite() {
        promise(18, "it may be infinite.");
        put(0, HUGE, 0);
        put(1, -0x1.fffffffffffffp969, 0);
        due("rounded to the greatest", t.far(0, 1), b(HUGE));
        put(1, -0x1p970, 0);
        due("rounded to the infinite", t.far(0, 1), b(INF));
        due("turned", t.far(1, 0), b(INF));
        put(0, 0, HUGEF);
        put(1, 1e300, -0x1.fffffep102);
        due("rounded to the greatest, and less than the x's", t.far(0, 1), b(1e300));
        put(1, 1e300, -0x1p103);
        due("the y's alone", t.far(0, 1), b(INF));
    }

    private static void p18MadeAnX() {
        promise(18, "(a y then, made an x)");
        put(0, 0, TINYF);
        due("the least", t.far(0, 1), b(0x1p-149));
        put(0, 0, HUGEF);
        due("the greatest", t.far(0, 1), b(0x1.fffffep127));
        put(0, 0x1.0000000000001p0, 1);
        due("the x is greater by one bit", t.far(0, 1), b(0x1.0000000000001p0));
        put(0, 0x1.fffffffffffffp-1, 1);
        due("the y is greater by one bit", t.far(0, 1), b(1));
        put(0, 0.1, 0.1f);
        due("the float is the greater one", t.far(0, 1), b(0.1f));
        due("of a point and itself", t.far(0, 0), 0);
    }

    private static void cell(double x, int due) {
        put(0, x, 0);
        due("cell at " + x, t.cell(0), due);
    }

    private static void p19BeyondInts() {
        promise(19, "what is beyond the ints is the nearest one of them.");
        cell(2147483646.75, 2147483646);
        cell(2147483647.0, Integer.MAX_VALUE);
        cell(2147483647.75, Integer.MAX_VALUE);
        cell(2147483648.0, Integer.MAX_VALUE);
        cell(4294967296.0, Integer.MAX_VALUE);
        cell(0x1p64, Integer.MAX_VALUE);
        cell(HUGE, Integer.MAX_VALUE);
        cell(-2147483647.0, -2147483647);
        cell(-2147483647.25, Integer.MIN_VALUE);
        cell(-2147483648.0, Integer.MIN_VALUE);
        cell(-2147483648.25, Integer.MIN_VALUE);
        cell(-4294967297.0, Integer.MIN_VALUE);
        cell(-0x1p64, Integer.MIN_VALUE);
        cell(-HUGE, Integer.MIN_VALUE);
        done("steps", t.steps(b(TINY), f(1)));
        cell(1, Integer.MAX_VALUE);
        cell(-1, Integer.MIN_VALUE);
    }

    private static void p19Down() {
        promise(19, "A point's x by STEP, DOWN, as an int");
        cell(-0.0, 0);
        cell(-TINY, -1);
        cell(TINY, 0);
        cell(Math.nextDown(1.0), 0);
        cell(1, 1);
        cell(Math.nextDown(-1.0), -2);
        done("steps", t.steps(b(HUGE), f(1)));
        cell(HUGE, 1);
        cell(-HUGE, -1);
        cell(Math.nextDown(HUGE), 0);
        cell(-TINY, 0);
    }

    private static void mark(double y, long due) {
        put(0, 0, y);
        due("mark at " + y, t.mark(0), due);
    }

    private static void p20BeyondLongs() {
        promise(20, "what is beyond the longs is the nearest one of them.");
        mark(0x1.fffffep62, 0x7fffff8000000000L);
        mark(0x1p63, Long.MAX_VALUE);
        mark(0x1p64, Long.MAX_VALUE);
        mark(HUGEF, Long.MAX_VALUE);
        mark(-0x1.fffffep62, -0x7fffff8000000000L);
        mark(-0x1p63, Long.MIN_VALUE);
        mark(-0x1.000002p63, Long.MIN_VALUE);
        mark(-HUGEF, Long.MIN_VALUE);
        mark(0x1p31, 2147483648L);
        mark(-0x1.000002p31, -2147483904L);
        done("steps", t.steps(b(1), f(TINYF)));
        mark(1, Long.MAX_VALUE);
        mark(-1, Long.MIN_VALUE);
    }

    private static void p20Near() {
        promise(20, "A point's y by GRAIN, NEAR, as a long");
        mark(0.5, 0);
        mark(-0.5, 0);
        mark(Math.nextUp(0.5f), 1);
        mark(Math.nextDown(-0.5f), -1);
        mark(1.5, 2);
        mark(Math.nextDown(1.5f), 1);
        mark(-1.5, -2);
        mark(-2.5, -2);
        mark(-0.0, 0);
        mark(0x1p23 - 0.5, 1L << 23);
        done("steps", t.steps(b(1), f(HUGEF)));
        mark(HUGEF, 1);
        mark(-HUGEF, -1);
        mark(HUGEF / 2, 0);
        mark(TINYF, 0);
    }

    private static void p21GoesRound() {
        promise(21, "in ints that go round (the least int's size is itself)");
        put(0, 2147483647.0, 0);
        put(1, -2147483648.0, 0);
        put(2, -1, 0);
        put(3, 0, 0);
        put(4, -2, 0);
        due("greatest and least", t.gap(0, 1), 1);
        due("least and greatest", t.gap(1, 0), 1);
        due("greatest and -1", t.gap(0, 2), Integer.MIN_VALUE);
        due("-1 and greatest", t.gap(2, 0), Integer.MIN_VALUE);
        due("least and 0", t.gap(1, 3), Integer.MIN_VALUE);
        due("0 and least", t.gap(3, 1), Integer.MIN_VALUE);
        due("greatest and 0", t.gap(0, 3), Integer.MAX_VALUE);
        due("least and -1", t.gap(1, 2), Integer.MAX_VALUE);
        due("greatest and -2", t.gap(0, 4), Integer.MAX_VALUE);
        due("a point and itself", t.gap(1, 1), 0);
    }

    private static void p22GoesRound() {
        promise(22, "in longs that go round (the least long's size is itself)");
        put(0, 0, 0x1p63);
        put(1, 0, -0x1p63);
        put(2, 0, -1);
        put(3, 0, 0);
        put(4, 0, -2);
        due("greatest and least", t.rise(0, 1), 1);
        due("least and greatest", t.rise(1, 0), 1);
        due("greatest and -1", t.rise(0, 2), Long.MIN_VALUE);
        due("-1 and greatest", t.rise(2, 0), Long.MIN_VALUE);
        due("least and 0", t.rise(1, 3), Long.MIN_VALUE);
        due("0 and least", t.rise(3, 1), Long.MIN_VALUE);
        due("greatest and 0", t.rise(0, 3), Long.MAX_VALUE);
        due("least and -1", t.rise(1, 2), Long.MAX_VALUE);
        due("greatest and -2", t.rise(0, 4), Long.MAX_VALUE);
        due("a point and itself", t.rise(0, 0), 0);
        put(3, 0, 0x1p31);
        due("beyond the ints", t.rise(3, 2), 2147483649L);
    }

    private static void p23Edge() {
        promise(23, "Of all eight points' x, way 0, the greatest, way 1, the least, by its bits; 0 for another way.");
        for (int k = 0; k < 8; k++) {
            put(k, -5, -5);
        }
        for (int k = 0; k < 8; k++) {
            put(k, -4, 9);
            due("the greatest is " + k, t.edge(0), b(-4));
            put(k, -6, 9);
            due("the least is " + k, t.edge(1), b(-6));
            put(k, -5, -5);
        }
        for (int no : NO_ENDS) {
            due("way " + no, t.edge(no), 0);
        }
    }

    private static void p23Zeros() {
        promise(23, "Of all eight points' x, way 0, the greatest, way 1, the least", "zeros");
        put(7, -0.0, 3);
        due("the greatest", t.edge(0), b(0.0));
        due("the least", t.edge(1), b(-0.0));
        for (int k = 0; k < 7; k++) {
            put(k, -0.0, 3);
        }
        due("the greatest", t.edge(0), b(-0.0));
    }

    private static void p24Rim() {
        promise(24, "Of all eight points' y likewise.");
        for (int k = 0; k < 8; k++) {
            put(k, -5, -5);
        }
        for (int k = 0; k < 8; k++) {
            put(k, 9, -4);
            due("the greatest is " + k, t.rim(0), f(-4));
            put(k, 9, -6);
            due("the least is " + k, t.rim(1), f(-6));
            put(k, -5, -5);
        }
        for (int no : NO_ENDS) {
            due("way " + no, t.rim(no), 0);
        }
    }

    private static void p24Zeros() {
        promise(24, "Of all eight points' y likewise.", "zeros");
        put(0, 3, -0.0);
        due("the greatest", t.rim(0), f(0.0));
        due("the least", t.rim(1), f(-0.0));
        for (int k = 1; k < 8; k++) {
            put(k, 3, -0.0);
        }
        due("the greatest", t.rim(0), f(-0.0));
    }

    private static void p25Lowest() {
        promise(25, "Of the other seven points .. of several the lowest");
        due("never itself", t.neighbour(0), 1);
        for (int k = 1; k < 8; k++) {
            due("of all the lowest", t.neighbour(k), 0);
        }
        for (int k = 0; k < 8; k++) {
            put(k, 100 * k, 0);
        }
        due("the first", t.neighbour(0), 1);
        for (int k = 1; k < 8; k++) {
            due("of two the lower one", t.neighbour(k), k - 1);
        }
        put(3, 300, 1);
        put(4, 301, 0);
        put(5, 299, 1);
        due("by x or by y", t.neighbour(3), 4);
        put(4, 301 + 0x1p-40, 0);
        due("a little farther", t.neighbour(3), 5);
    }

    private static void p25Infinite() {
        promise(25, "the one that is least far (see there) from a point", "all infinitely far");
        put(3, HUGE, 0);
        for (int k = 0; k < 8; k++) {
            if (k != 3) {
                put(k, -HUGE, 0);
            }
        }
        due("the lowest", t.neighbour(3), 0);
        put(7, 0, 0);
        due("the one that isn't", t.neighbour(3), 7);
        put(7, HUGE, HUGEF);
        put(3, HUGE, -HUGEF);
        due("by y", t.neighbour(3), 0);
    }

    private static void p25NoSuch() {
        promise(25, "NONE for no such point.");
        for (int no : NO_POINTS) {
            due("neighbour " + no, t.neighbour(no), NONE);
        }
        due("no act is refused", t.count(1), 0);
    }

    private static void p26Column() {
        promise(26, "Of all eight points' cells, way 0, the greatest, way 1, the least; 0 for another way.");
        for (int k = 0; k < 8; k++) {
            put(k, -5.5, 77);
        }
        for (int k = 0; k < 8; k++) {
            put(k, -4, 77);
            due("the greatest is " + k, t.column(0), -4);
            put(k, -6.25, 77);
            due("the least is " + k, t.column(1), -7);
            put(k, -5.5, 77);
        }
        for (int no : NO_ENDS) {
            due("way " + no, t.column(no), 0);
        }
        done("steps", t.steps(b(TINY), f(1)));
        due("beyond the ints", t.column(0), Integer.MIN_VALUE);
        put(2, 1, 0);
        due("beyond the ints", t.column(0), Integer.MAX_VALUE);
        due("beyond the ints", t.column(1), Integer.MIN_VALUE);
    }

    private static void p27Row() {
        promise(27, "Of all eight points' marks likewise.");
        for (int k = 0; k < 8; k++) {
            put(k, 77, -5.5);
        }
        for (int k = 0; k < 8; k++) {
            put(k, 77, -4.5);
            due("the greatest is " + k, t.row(0), -4);
            put(k, 77, -7.5);
            due("the least is " + k, t.row(1), -8);
            put(k, 77, -5.5);
        }
        for (int no : NO_ENDS) {
            due("way " + no, t.row(no), 0);
        }
        done("steps", t.steps(b(1), f(TINYF)));
        due("beyond the longs", t.row(0), Long.MIN_VALUE);
        put(2, 0, 1);
        due("beyond the longs", t.row(0), Long.MAX_VALUE);
        due("beyond the longs", t.row(1), Long.MIN_VALUE);
    }

    private static void p28Another() {
        promise(28, "NONE for another what.");
        put(0, 1, 1);
        for (int no : NO_WAYS) {
            due("count " + no, t.count(no), NONE);
        }
        counts(1, 0, 0, 1);
    }

    private static void p28Each() {
        promise(28, "0 acts done, 1 acts refused, 2 how often a point MET a wall, 3 how many the TRAIL has");
        done("walls", t.walls(b(1), b(2)));
        counts(1, 0, 8, 0);
        done("rails", t.rails(f(1), f(2)));
        counts(2, 0, 16, 0);
        put(0, 3, 3);
        counts(3, 0, 18, 1);
        due("refused", t.place(0, b(INF), f(3)), 3);
        counts(3, 1, 18, 1);
        done("steps", t.steps(b(1), f(1)));
        done("guide", t.guide(0, b(2)));
        counts(5, 1, 18, 1);
        due("refused", t.guide(4, b(2)), 1);
        due("undo", t.undo(), 0);
        counts(5, 2, 18, 0);
    }
}
