/** Each promise by hand: ordinary inputs, the edges that the document names, and wrong inputs. */
final class PromiseTest {
    private static final int BAD = -1;
    private static final int MIN = Integer.MIN_VALUE;
    private static final int MAX = Integer.MAX_VALUE;
    /** What is no pair of places: equal ones, ones out of range, and ones that a shift would wrap into range. */
    private static final int[][] NO_PAIRS = {
        {0, 0}, {5, 5}, {-1, 0}, {0, -1}, {6, 0}, {0, 6}, {5, 6}, {6, 5}, {6, 6}, {-1, -1}, {32, 1}, {1, 32}, {33, 0},
        {MIN, 1}, {1, MIN}, {MAX, 1}, {1, MAX}, {MIN, MAX}, {-1, 5}, {5, -1}, {-1, 2}, {1, 12}
    };

    private PromiseTest() {
    }

    public static void main(String[] args) {
        newObject();
        set();
        setRefuses();
        capacity();
        cost();
        least();
        leastSide();
        between();
        coreAndReach();
        forced();
        forcedRefuses();
        pairsAtLeast();
        group();
        loss();
        tight();
        tightAtMostCapacity();
        Checks.end();
    }

    /** Two pairs joined firmly inside, 0-1 by 10 and 2-3 by 20, a thin 1-2 by 3; 4 hangs on 3 by 5, 5 on 4 by 7. */
    private static CutFinder path() {
        return Checks.network(
            new int[] {0, 1, 10}, new int[] {1, 2, 3}, new int[] {2, 3, 20}, new int[] {3, 4, 5}, new int[] {4, 5, 7});
    }

    private static CutFinder full() {
        CutFinder finder = new CutFinder();
        for (int a = 0; a < 6; a++) {
            for (int b = a + 1; b < 6; b++) {
                Checks.due("set to 30", finder.set(a, b, 30), true);
            }
        }
        return finder;
    }

    private static void newObject() {
        Checks.due("BAD", CutFinder.BAD, BAD);
        CutFinder used = full();
        CutFinder finder = new CutFinder();
        for (int a = 0; a < 6; a++) {
            for (int b = 0; b < 6; b++) {
                if (a != b) {
                    Checks.due("new: capacity(" + a + ", " + b + ")", finder.capacity(a, b), 0);
                }
            }
        }
        for (int side = 1; side <= 62; side++) {
            Checks.due("new: cost(" + side + ")", finder.cost(side), 0);
        }
        Checks.due("the used one keeps its own", used.capacity(0, 1), 30);
    }

    private static void set() {
        CutFinder finder = new CutFinder();
        int c = 1;
        for (int a = 0; a < 6; a++) {
            for (int b = a + 1; b < 6; b++) {
                // Half of the pairs are given the greater place first.
                boolean turned = c % 2 == 0;
                Checks.due("set", turned ? finder.set(b, a, c) : finder.set(a, b, c), true);
                c++;
            }
        }
        c = 1;
        for (int a = 0; a < 6; a++) {
            for (int b = a + 1; b < 6; b++) {
                Checks.due("capacity(" + a + ", " + b + ")", finder.capacity(a, b), c);
                Checks.due("capacity(" + b + ", " + a + ")", finder.capacity(b, a), c);
                c++;
            }
        }
        Checks.due("set(4, 5, 30)", finder.set(4, 5, 30), true);
        Checks.due("capacity(5, 4)", finder.capacity(5, 4), 30);
        Checks.due("set(5, 4, 0)", finder.set(5, 4, 0), true);
        Checks.due("capacity(4, 5)", finder.capacity(4, 5), 0);
        Checks.due("set(5, 4, 0) again", finder.set(5, 4, 0), true);
    }

    private static void setRefuses() {
        for (int[] pair : NO_PAIRS) {
            CutFinder finder = path();
            Checks.due("set(" + pair[0] + ", " + pair[1] + ", 9)", finder.set(pair[0], pair[1], 9), false);
            unchangedPath(finder);
        }
        for (int c : new int[] {-1, 31, 32, 64, MIN, MAX}) {
            CutFinder finder = path();
            Checks.due("set(0, 1, " + c + ")", finder.set(0, 1, c), false);
            Checks.due("set(5, 0, " + c + ")", finder.set(5, 0, c), false);
            unchangedPath(finder);
        }
    }

    private static void unchangedPath(CutFinder finder) {
        int[] chain = {10, 3, 20, 5, 7};
        for (int a = 0; a < 6; a++) {
            for (int b = 0; b < 6; b++) {
                if (a != b) {
                    int low = a < b ? a : b;
                    int want = a - b == 1 || b - a == 1 ? chain[low] : 0;
                    Checks.due("unchanged: capacity(" + a + ", " + b + ")", finder.capacity(a, b), want);
                }
            }
        }
    }

    private static void capacity() {
        CutFinder finder = full();
        Checks.due("capacity(0, 5)", finder.capacity(0, 5), 30);
        Checks.due("capacity(5, 0)", finder.capacity(5, 0), 30);
        for (int[] pair : NO_PAIRS) {
            Checks.due("capacity(" + pair[0] + ", " + pair[1] + ")", finder.capacity(pair[0], pair[1]), BAD);
        }
    }

    private static void cost() {
        CutFinder finder = path();
        Checks.due("cost(1)", finder.cost(1), 10);
        Checks.due("cost(62)", finder.cost(62), 10);
        Checks.due("cost(2)", finder.cost(2), 13);
        Checks.due("cost(3)", finder.cost(3), 3);
        Checks.due("cost(21)", finder.cost(21), 45);
        Checks.due("cost(42)", finder.cost(42), 45);
        Checks.due("cost(32)", finder.cost(32), 7);
        for (int side : new int[] {0, 63, -1, 64, 65, 127, -62, MIN, MAX, MIN + 1}) {
            Checks.due("cost(" + side + ")", finder.cost(side), BAD);
        }
        Checks.due("full: cost(7)", full().cost(7), 270);
    }

    private static void least() {
        CutFinder finder = path();
        Checks.due("least()", finder.least(), 3);
        finder.set(1, 2, 30);
        Checks.due("least() after the thin one is 30", finder.least(), 5);
        finder.set(0, 1, 0);
        Checks.due("least() with place 0 alone", finder.least(), 0);
        Checks.due("full: least()", full().least(), 150);
    }

    private static void leastSide() {
        CutFinder finder = path();
        Checks.due("leastSide()", finder.leastSide(), 3);
        finder.set(1, 2, 30);
        Checks.due("leastSide() at 3-4", finder.leastSide(), 15);
        finder.set(3, 4, 30);
        Checks.due("leastSide() at 4-5", finder.leastSide(), 31);
        finder.set(0, 1, 7);
        Checks.due("leastSide() of two equal ones", finder.leastSide(), 1);
        finder.set(0, 1, 8);
        finder.set(1, 5, 1);
        finder.set(4, 5, 6);
        Checks.due("leastSide() with 5 alone again", finder.leastSide(), 31);
        Checks.due("full: leastSide()", full().leastSide(), 1);
        for (int apart = 1; apart < 6; apart++) {
            CutFinder oneApart = full();
            for (int b = 0; b < 6; b++) {
                oneApart.set(apart, b, 1);
            }
            Checks.due("leastSide() with " + apart + " apart", oneApart.leastSide(), 63 - (1 << apart));
        }
    }

    private static void between() {
        CutFinder finder = path();
        Checks.due("between(0, 1)", finder.between(0, 1), 10);
        Checks.due("between(1, 0)", finder.between(1, 0), 10);
        Checks.due("between(0, 5)", finder.between(0, 5), 3);
        Checks.due("between(2, 3)", finder.between(2, 3), 20);
        Checks.due("between(2, 5)", finder.between(2, 5), 5);
        Checks.due("between(5, 4)", finder.between(5, 4), 7);
        Checks.due("full: between(0, 5)", full().between(0, 5), 150);
        for (int[] pair : NO_PAIRS) {
            Checks.due("between(" + pair[0] + ", " + pair[1] + ")", finder.between(pair[0], pair[1]), BAD);
        }
    }

    private static void coreAndReach() {
        CutFinder finder = path();
        Checks.due("core(0, 5)", finder.core(0, 5), 3);
        Checks.due("reach(0, 5)", finder.reach(0, 5), 3);
        Checks.due("core(5, 0)", finder.core(5, 0), 60);
        Checks.due("reach(5, 0)", finder.reach(5, 0), 60);
        finder.set(3, 4, 3);
        Checks.due("core(0, 5) of two cuts", finder.core(0, 5), 3);
        Checks.due("reach(0, 5) of two cuts", finder.reach(0, 5), 15);
        Checks.due("core(5, 0) of two cuts", finder.core(5, 0), 48);
        Checks.due("reach(5, 0) of two cuts", finder.reach(5, 0), 60);
        CutFinder empty = new CutFinder();
        Checks.due("empty: core(3, 1)", empty.core(3, 1), 8);
        Checks.due("empty: reach(3, 1)", empty.reach(3, 1), 61);
        for (int[] pair : NO_PAIRS) {
            Checks.due("core(" + pair[0] + ", " + pair[1] + ")", finder.core(pair[0], pair[1]), 0);
            Checks.due("reach(" + pair[0] + ", " + pair[1] + ")", finder.reach(pair[0], pair[1]), 0);
        }
    }

    private static void forced() {
        CutFinder finder = path();
        Checks.due("forced(0, 0)", finder.forced(0, 0), 3);
        Checks.due("forced(1, 0)", finder.forced(1, 0), 3);
        Checks.due("forced(0, 1)", finder.forced(0, 1), 3);
        Checks.due("forced(7, 0)", finder.forced(7, 0), 5);
        Checks.due("forced(0, 7)", finder.forced(0, 7), 5);
        Checks.due("forced(5, 2)", finder.forced(5, 2), 13);
        Checks.due("forced(21, 42)", finder.forced(21, 42), 45);
        Checks.due("forced(33, 0)", finder.forced(33, 0), 8);
        Checks.due("forced(62, 0)", finder.forced(62, 0), 10);
        Checks.due("forced(0, 62)", finder.forced(0, 62), 10);
        Checks.due("forced(62, 1)", finder.forced(62, 1), 10);
        Checks.due("forced(31, 32)", finder.forced(31, 32), 7);
    }

    private static void forcedRefuses() {
        CutFinder finder = path();
        int[][] none = {
            {63, 0}, {0, 63}, {63, 63}, {1, 1}, {3, 2}, {32, 32}, {62, 2}, {64, 0}, {0, 64}, {65, 2}, {1, 66}, {-1, 0},
            {0, -1}, {-64, 0}, {0, -64}, {-63, 2}, {2, -63}, {MIN, 0}, {0, MIN}, {MIN + 1, 0}, {1, MIN}, {MAX, 0},
            {0, MAX}, {1 << 30, 0}, {128, 1}, {64, 64}
        };
        for (int[] row : none) {
            Checks.due("forced(" + row[0] + ", " + row[1] + ")", finder.forced(row[0], row[1]), BAD);
        }
    }

    private static void pairsAtLeast() {
        CutFinder finder = path();
        int[][] rows = {
            {MIN, 15}, {-1, 15}, {0, 15}, {3, 15}, {4, 7}, {5, 7}, {6, 3}, {7, 3}, {8, 2}, {10, 2}, {11, 1}, {20, 1},
            {21, 0}, {30, 0}, {151, 0}, {MAX, 0}
        };
        for (int[] row : rows) {
            Checks.due("pairsAtLeast(" + row[0] + ")", finder.pairsAtLeast(row[0]), row[1]);
        }
        CutFinder full = full();
        Checks.due("full: pairsAtLeast(150)", full.pairsAtLeast(150), 15);
        Checks.due("full: pairsAtLeast(151)", full.pairsAtLeast(151), 0);
    }

    private static void group() {
        CutFinder finder = path();
        int[][] rows = {
            {0, MIN, 63}, {0, -1, 63}, {0, 3, 63}, {0, 4, 3}, {0, 10, 3}, {0, 11, 1}, {0, MAX, 1}, {3, 4, 60}, {3, 5, 60},
            {3, 6, 12}, {3, 20, 12}, {3, 21, 8}, {5, 5, 60}, {5, 7, 48}, {5, 8, 32}, {5, MAX, 32}, {2, 0, 63}
        };
        for (int[] row : rows) {
            Checks.due("group(" + row[0] + ", " + row[1] + ")", finder.group(row[0], row[1]), row[2]);
        }
        for (int a : new int[] {-1, 6, 7, 32, 33, -32, MIN, MAX}) {
            for (int c : new int[] {MIN, -1, 0, 1, MAX}) {
                Checks.due("group(" + a + ", " + c + ")", finder.group(a, c), 0);
            }
        }
    }

    private static void loss() {
        CutFinder finder = path();
        Checks.due("loss(1, 2)", finder.loss(1, 2), 3);
        Checks.due("loss(2, 3)", finder.loss(2, 3), 3);
        Checks.due("loss(0, 5)", finder.loss(0, 5), 0);
        finder.set(0, 2, 30);
        Checks.due("loss(2, 0) where another way stays", finder.loss(2, 0), 2);
        Checks.due("loss(0, 2) where another way stays", finder.loss(0, 2), 2);
        Checks.due("loss(1, 2) beside a cheaper cut", finder.loss(1, 2), 0);
        finder.set(0, 2, 0);
        unchangedPath(finder);
        CutFinder full = full();
        Checks.due("full: loss(0, 1)", full.loss(0, 1), 30);
        Checks.due("full: least() after loss", full.least(), 150);
        Checks.due("empty: loss(4, 5)", new CutFinder().loss(4, 5), 0);
        for (int[] pair : NO_PAIRS) {
            Checks.due("loss(" + pair[0] + ", " + pair[1] + ")", finder.loss(pair[0], pair[1]), BAD);
        }
    }

    private static void tight() {
        CutFinder finder = path();
        Checks.due("tight(0, 5, 1, 2)", finder.tight(0, 5, 1, 2), true);
        Checks.due("tight(5, 0, 2, 1)", finder.tight(5, 0, 2, 1), true);
        Checks.due("tight(0, 5, 0, 1)", finder.tight(0, 5, 0, 1), false);
        Checks.due("tight(0, 5, 3, 4)", finder.tight(0, 5, 3, 4), false);
        Checks.due("tight(0, 5, 0, 5)", finder.tight(0, 5, 0, 5), true);
        Checks.due("tight(0, 5, 4, 1)", finder.tight(0, 5, 4, 1), true);
        finder.set(3, 4, 3);
        Checks.due("tight(0, 5, 1, 2) of two cuts", finder.tight(0, 5, 1, 2), false);
        Checks.due("tight(0, 5, 1, 4) of two cuts", finder.tight(0, 5, 1, 4), true);
        finder.set(3, 4, 5);
        unchangedPath(finder);
        for (int[] pair : NO_PAIRS) {
            String words = pair[0] + ", " + pair[1];
            Checks.due("tight(" + words + ", 1, 2)", finder.tight(pair[0], pair[1], 1, 2), false);
            Checks.due("tight(0, 5, " + words + ")", finder.tight(0, 5, pair[0], pair[1]), false);
            Checks.due("tight(" + words + ", " + words + ")", finder.tight(pair[0], pair[1], pair[0], pair[1]), false);
        }
    }

    /** The question is what would be, so it has its answer where set would refuse the greater capacity too. */
    private static void tightAtMostCapacity() {
        CutFinder finder = Checks.network(new int[] {0, 1, 30});
        Checks.due("tight(0, 1, 0, 1) at 30", finder.tight(0, 1, 0, 1), true);
        Checks.due("capacity(0, 1) after tight", finder.capacity(0, 1), 30);
        Checks.due("full: tight(0, 1, 0, 1)", full().tight(0, 1, 0, 1), true);
        Checks.due("full: tight(0, 1, 0, 2)", full().tight(0, 1, 0, 2), false);
    }
}
