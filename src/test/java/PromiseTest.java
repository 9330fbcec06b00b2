/** Each promise by hand on ordinary inputs; the edges and the wrong inputs have their own tests (*EdgeTest). */
final class PromiseTest {
    private PromiseTest() {
    }

    public static void main(String[] args) {
        Checks.sentence("Promise 1", PromiseTest::newObject);
        Checks.sentence("Promises 2 and 3", PromiseTest::setAndCapacity);
        Checks.sentence("Promise 4", PromiseTest::cost);
        Checks.sentence("Promise 5", PromiseTest::least);
        Checks.sentence("Promise 6", PromiseTest::leastSide);
        Checks.sentence("Promise 7", PromiseTest::between);
        Checks.sentence("Promises 8 and 9", PromiseTest::coreAndReach);
        Checks.sentence("Promise 10", PromiseTest::forced);
        Checks.sentence("Promise 11", PromiseTest::pairsAtLeast);
        Checks.sentence("Promise 12", PromiseTest::group);
        Checks.sentence("Promise 13", PromiseTest::loss);
        Checks.sentence("Promise 14", PromiseTest::tight);
        Checks.end();
    }

    private static void newObject() {
        Checks.due("BAD", CutFinder.BAD, -1);
        Checks.due("new: capacity(2, 4)", new CutFinder().capacity(2, 4), 0);
    }

    private static void setAndCapacity() {
        CutFinder finder = new CutFinder();
        int c = 1;
        for (int a = 0; a < 6; a++) {
            for (int b = a + 1; b < 6; b++) {
                // Half of the pairs are given the greater place first.
                boolean turned = c % 2 == 0;
                Checks.due("set", turned ? finder.set(b, a, c) : finder.set(a, b, c), true);
                c++;
            }
        }
        c = 1;
        for (int a = 0; a < 6; a++) {
            for (int b = a + 1; b < 6; b++) {
                Checks.due("capacity(" + a + ", " + b + ")", finder.capacity(a, b), c);
                c++;
            }
        }
    }

    private static void cost() {
        CutFinder finder = Networks.path();
        Checks.due("cost(2)", finder.cost(2), 13);
        Checks.due("cost(3)", finder.cost(3), 3);
        Checks.due("cost(21)", finder.cost(21), 45);
        Checks.due("cost(42)", finder.cost(42), 45);
        Checks.due("cost(32)", finder.cost(32), 7);
    }

    private static void least() {
        CutFinder finder = Networks.path();
        Checks.due("least()", finder.least(), 3);
        finder.set(1, 2, 30);
        Checks.due("least() after the thin one is 30", finder.least(), 5);
        finder.set(0, 1, 0);
        Checks.due("least() with place 0 alone", finder.least(), 0);
    }

    private static void leastSide() {
        CutFinder finder = Networks.path();
        Checks.due("leastSide()", finder.leastSide(), 3);
        finder.set(1, 2, 30);
        Checks.due("leastSide() at 3-4", finder.leastSide(), 15);
        finder.set(3, 4, 30);
        Checks.due("leastSide() at 4-5", finder.leastSide(), 31);
        finder.set(0, 1, 6);
        Checks.due("leastSide() at 0-1", finder.leastSide(), 1);
    }

    private static void between() {
        CutFinder finder = Networks.path();
        Checks.due("between(0, 1)", finder.between(0, 1), 10);
        Checks.due("between(1, 0)", finder.between(1, 0), 10);
        Checks.due("between(0, 5)", finder.between(0, 5), 3);
        Checks.due("between(2, 3)", finder.between(2, 3), 20);
        Checks.due("between(2, 5)", finder.between(2, 5), 5);
        Checks.due("between(5, 4)", finder.between(5, 4), 7);
    }

    private static void coreAndReach() {
        CutFinder finder = Networks.path();
        Checks.due("core(0, 5)", finder.core(0, 5), 3);
        Checks.due("reach(0, 5)", finder.reach(0, 5), 3);
        Checks.due("core(5, 0)", finder.core(5, 0), 60);
        Checks.due("reach(5, 0)", finder.reach(5, 0), 60);
        finder.set(3, 4, 3);
        Checks.due("core(0, 5) of two cuts", finder.core(0, 5), 3);
        Checks.due("reach(0, 5) of two cuts", finder.reach(0, 5), 15);
        Checks.due("core(5, 0) of two cuts", finder.core(5, 0), 48);
        Checks.due("reach(5, 0) of two cuts", finder.reach(5, 0), 60);
    }

    private static void forced() {
        CutFinder finder = Networks.path();
        Checks.due("forced(1, 0)", finder.forced(1, 0), 3);
        Checks.due("forced(0, 1)", finder.forced(0, 1), 3);
        Checks.due("forced(7, 0)", finder.forced(7, 0), 5);
        Checks.due("forced(0, 7)", finder.forced(0, 7), 5);
        Checks.due("forced(5, 2)", finder.forced(5, 2), 13);
        Checks.due("forced(33, 0)", finder.forced(33, 0), 8);
    }

    private static void pairsAtLeast() {
        CutFinder finder = Networks.path();
        int[][] rows = {{3, 15}, {4, 7}, {5, 7}, {6, 3}, {7, 3}, {8, 2}, {10, 2}, {11, 1}, {20, 1}, {21, 0}};
        for (int[] row : rows) {
            Checks.due("pairsAtLeast(" + row[0] + ")", finder.pairsAtLeast(row[0]), row[1]);
        }
    }

    private static void group() {
        CutFinder finder = Networks.path();
        int[][] rows = {
            {0, 3, 63}, {0, 4, 3}, {0, 10, 3}, {0, 11, 1}, {3, 4, 60}, {3, 5, 60}, {3, 6, 12}, {3, 20, 12}, {3, 21, 8},
            {5, 5, 60}, {5, 7, 48}, {5, 8, 32}
        };
        for (int[] row : rows) {
            Checks.due("group(" + row[0] + ", " + row[1] + ")", finder.group(row[0], row[1]), row[2]);
        }
    }

    private static void loss() {
        CutFinder finder = Networks.path();
        Checks.due("loss(1, 2)", finder.loss(1, 2), 3);
        Checks.due("loss(2, 3)", finder.loss(2, 3), 3);
        Checks.due("loss(0, 5)", finder.loss(0, 5), 0);
        finder.set(0, 2, 30);
        Checks.due("loss(2, 0) where another way stays", finder.loss(2, 0), 2);
        Checks.due("loss(0, 2) where another way stays", finder.loss(0, 2), 2);
        Checks.due("loss(1, 2) beside a cheaper cut", finder.loss(1, 2), 0);
        finder.set(0, 2, 0);
        Networks.isPath(finder);
    }

    private static void tight() {
        CutFinder finder = Networks.path();
        Checks.due("tight(0, 5, 1, 2)", finder.tight(0, 5, 1, 2), true);
        Checks.due("tight(5, 0, 2, 1)", finder.tight(5, 0, 2, 1), true);
        Checks.due("tight(0, 5, 0, 1)", finder.tight(0, 5, 0, 1), false);
        Checks.due("tight(0, 5, 3, 4)", finder.tight(0, 5, 3, 4), false);
        Checks.due("tight(0, 5, 0, 5)", finder.tight(0, 5, 0, 5), true);
        Checks.due("tight(0, 5, 4, 1)", finder.tight(0, 5, 4, 1), true);
        finder.set(3, 4, 3);
        Checks.due("tight(0, 5, 1, 2) of two cuts", finder.tight(0, 5, 1, 2), false);
        Checks.due("tight(0, 5, 1, 4) of two cuts", finder.tight(0, 5, 1, 4), true);
        finder.set(3, 4, 5);
        Networks.isPath(finder);
    }
}
