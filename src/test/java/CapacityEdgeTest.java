/** The boundary cases that promises 2 and 3 name: one test for each. */
final class CapacityEdgeTest {
    private static final int[] TOO_LITTLE = {-1, -2, -30, -31, -32, -256, -65536, Checks.MIN, Checks.MIN + 1};
    private static final int[] TOO_MUCH = {31, 32, 33, 60, 62, 63, 64, 256, 261, 65536, 65541, 1 << 30, Checks.MAX};

    private CapacityEdgeTest() {
    }

    public static void main(String[] args) {
        Checks.sentence("Promise 2: true at the edges of what is right", CapacityEdgeTest::edgesTaken);
        Checks.sentence("Promise 2: true when the capacity is that already", CapacityEdgeTest::sameAgain);
        Checks.sentence("Promise 2: the capacity between a and b, no other one", CapacityEdgeTest::noOtherOne);
        for (int c : new int[] {0, 9, 30}) {
            Refusals.ofPairs("Promise 2, c is " + c, (finder, a, b) -> finder.set(a, b, c) ? 1 : 0, 0);
        }
        Checks.sentence("Promise 2: c is less than 0", () -> wrongCapacities(TOO_LITTLE));
        Checks.sentence("Promise 2: c is more than 30", () -> wrongCapacities(TOO_MUCH));
        Checks.sentence("Promise 2: changing nothing when a = b", CapacityEdgeTest::equalChangesNothing);
        Checks.sentence("Promise 2: changing nothing when one is less than 0",
            () -> wrongPlaceChangesNothing(Refusals.TOO_SMALL));
        Checks.sentence("Promise 2: changing nothing when one is more than 5",
            () -> wrongPlaceChangesNothing(Refusals.TOO_LARGE));
        Checks.sentence("Promise 2: changing nothing when c is less than 0",
            () -> wrongCapacityChangesNothing(TOO_LITTLE));
        Checks.sentence("Promise 2: changing nothing when c is more than 30",
            () -> wrongCapacityChangesNothing(TOO_MUCH));
        Checks.sentence("Promise 2: a right call after a refused one", CapacityEdgeTest::rightAfterWrong);
        Refusals.ofPairs("Promise 3", CutFinder::capacity, Checks.BAD);
        Checks.sentence("Promise 3: a capacity of 0 is not BAD", CapacityEdgeTest::zeroIsNotBad);
        Checks.end();
    }

    private static void edgesTaken() {
        CutFinder finder = new CutFinder();
        for (int[] pair : new int[][] {{0, 5}, {5, 0}, {0, 1}, {4, 5}}) {
            for (int c : new int[] {30, 0, 1, 29}) {
                String words = "(" + pair[0] + ", " + pair[1] + ", " + c + ")";
                Checks.due("set" + words, finder.set(pair[0], pair[1], c), true);
                Checks.due("capacity after set" + words, finder.capacity(pair[0], pair[1]), c);
            }
        }
    }

    private static void sameAgain() {
        CutFinder finder = new CutFinder();
        for (int c : new int[] {0, 30, 30, 0, 0}) {
            Checks.due("set(2, 3, " + c + ")", finder.set(2, 3, c), true);
            Checks.due("capacity(2, 3)", finder.capacity(2, 3), c);
        }
    }

    private static void noOtherOne() {
        for (int a = 0; a <= 5; a++) {
            for (int b = 0; b <= 5; b++) {
                if (a != b) {
                    CutFinder finder = Networks.mixed();
                    Checks.due("set(" + a + ", " + b + ", 15)", finder.set(a, b, 15), true);
                    isWhole(finder, Networks.tableWith(Networks.MIXED, a, b, 15));
                }
            }
        }
    }

    private static void wrongCapacities(int[] wrongOnes) {
        for (int c : wrongOnes) {
            CutFinder finder = new CutFinder();
            for (int a = 0; a <= 5; a++) {
                for (int b = 0; b <= 5; b++) {
                    Checks.due("set(" + a + ", " + b + ", " + c + ")", finder.set(a, b, c), false);
                }
            }
        }
    }

    private static void equalChangesNothing() {
        for (int a = 0; a <= 5; a++) {
            refusedAndSame(a, a, 15);
        }
    }

    private static void wrongPlaceChangesNothing(int[] wrongPlaces) {
        for (int wrong : wrongPlaces) {
            for (int right = 0; right <= 5; right++) {
                refusedAndSame(wrong, right, 15);
                refusedAndSame(right, wrong, 15);
            }
            refusedAndSame(wrong, wrong, 15);
        }
    }

    private static void wrongCapacityChangesNothing(int[] wrongOnes) {
        for (int c : wrongOnes) {
            for (int a = 0; a <= 5; a++) {
                for (int b = 0; b <= 5; b++) {
                    refusedAndSame(a, b, c);
                }
            }
            refusedAndSame(6, -1, c);
        }
    }

    private static void refusedAndSame(int a, int b, int c) {
        CutFinder finder = Networks.mixed();
        Checks.due("set(" + a + ", " + b + ", " + c + ")", finder.set(a, b, c), false);
        isWhole(finder, Networks.MIXED);
    }

    private static void isWhole(CutFinder finder, int[][] table) {
        FlowModel model = new FlowModel(table);
        Networks.isTable(finder, table);
        for (int side = 1; side <= 62; side++) {
            Checks.due("state: cost(" + side + ")", finder.cost(side), model.cost(side));
        }
        Checks.due("state: least()", finder.least(), model.least());
        Checks.due("state: leastSide()", finder.leastSide(), model.leastSide());
    }

    private static void rightAfterWrong() {
        CutFinder finder = Networks.of(new int[] {0, 1, 10});
        Checks.due("set(0, 1, 31)", finder.set(0, 1, 31), false);
        Checks.due("capacity(0, 1)", finder.capacity(0, 1), 10);
        Checks.due("set(0, 1, 30)", finder.set(0, 1, 30), true);
        Checks.due("capacity(1, 0)", finder.capacity(1, 0), 30);
        Checks.due("set(0, 1, -1)", finder.set(0, 1, -1), false);
        Checks.due("set(0, 1, 0)", finder.set(0, 1, 0), true);
        Checks.due("capacity(0, 1)", finder.capacity(0, 1), 0);
    }

    private static void zeroIsNotBad() {
        CutFinder finder = Networks.of(new int[] {3, 5, 30}, new int[] {3, 5, 0});
        Checks.due("capacity(3, 5)", finder.capacity(3, 5), 0);
        Checks.due("capacity(0, 1)", finder.capacity(0, 1), 0);
    }
}
