/** The boundary cases that promises 7, 8, 9, 11 and 12 name: one test for each. */
final class PairEdgeTest {
    private static final int ALL = 63;
    /** Less than every cost; a difference of a cost and one of them may wrap around. */
    private static final int[] BELOW_ALL = {Checks.MIN, Checks.MIN + 1, Checks.MIN + 150, -65536, -151, -150, -2, -1};
    /** More than the greatest cost of a cheapest side, which is 150. */
    private static final int[] ABOVE_ALL = {151, 152, 256, 65536, 1 << 30, Checks.MAX - 150, Checks.MAX - 1, Checks.MAX};

    private PairEdgeTest() {
    }

    public static void main(String[] args) {
        Refusals.ofPairs("Promise 7", CutFinder::between, Checks.BAD);
        Checks.sentence("Promise 7: a least cost of 0 is not BAD", PairEdgeTest::betweenIsNothing);
        Checks.sentence("Promise 7: the least cost where it is greatest", PairEdgeTest::betweenIsGreatest);
        Refusals.ofPairs("Promise 8", CutFinder::core, 0);
        Checks.sentence("Promise 8: a is in, b is not, and no more than that", PairEdgeTest::smallestCore);
        Checks.sentence("Promise 8: in every side, when there is one alone", PairEdgeTest::oneSideCore);
        Refusals.ofPairs("Promise 9", CutFinder::reach, 0);
        Checks.sentence("Promise 9: all but b, and never b", PairEdgeTest::greatestReach);
        Checks.sentence("Promise 9: in some side, when there is one alone", PairEdgeTest::oneSideReach);
        Checks.sentence("Promise 11: c less than every cost", PairEdgeTest::pairsBelowAll);
        Checks.sentence("Promise 11: c more than every cost", PairEdgeTest::pairsAboveAll);
        Checks.sentence("Promise 11: at least c: c itself counts, one more does not", PairEdgeTest::pairsAtTheCost);
        Checks.sentence("Promise 11: pairs a < b, each once", PairEdgeTest::eachPairOnce);
        Checks.sentence("Promise 12: 0 when a is less than 0", () -> groupOfWrong(Refusals.TOO_SMALL));
        Checks.sentence("Promise 12: 0 when a is more than 5", () -> groupOfWrong(Refusals.TOO_LARGE));
        Checks.sentence("Promise 12: a itself, whatever c is", PairEdgeTest::groupAlone);
        Checks.sentence("Promise 12: c less than every cost", PairEdgeTest::groupOfAll);
        Checks.sentence("Promise 12: at least c: c itself counts, one more does not", PairEdgeTest::groupAtTheCost);
        Checks.end();
    }

    private static void betweenIsNothing() {
        for (int side = 1; side <= 62; side++) {
            CutFinder finder = Networks.parts(side, 30, 0);
            for (int a = 0; a <= 5; a++) {
                for (int b = 0; b <= 5; b++) {
                    if ((side >> a & 1) == 1 && (side >> b & 1) == 0) {
                        Checks.due("between(" + a + ", " + b + ")", finder.between(a, b), 0);
                        Checks.due("between(" + b + ", " + a + ")", finder.between(b, a), 0);
                    }
                }
            }
        }
    }

    private static void betweenIsGreatest() {
        CutFinder finder = Networks.full();
        for (int a = 0; a <= 5; a++) {
            for (int b = 0; b <= 5; b++) {
                if (a != b) {
                    Checks.due("between(" + a + ", " + b + ")", finder.between(a, b), 150);
                }
            }
        }
    }

    private static void smallestCore() {
        CutFinder empty = new CutFinder();
        CutFinder full = Networks.full();
        for (int a = 0; a <= 5; a++) {
            for (int b = 0; b <= 5; b++) {
                if (a != b) {
                    Checks.due("empty: core(" + a + ", " + b + ")", empty.core(a, b), 1 << a);
                    Checks.due("full: core(" + a + ", " + b + ")", full.core(a, b), 1 << a);
                }
            }
        }
    }

    private static void greatestReach() {
        CutFinder empty = new CutFinder();
        CutFinder full = Networks.full();
        for (int a = 0; a <= 5; a++) {
            for (int b = 0; b <= 5; b++) {
                if (a != b) {
                    Checks.due("empty: reach(" + a + ", " + b + ")", empty.reach(a, b), ALL - (1 << b));
                    Checks.due("full: reach(" + a + ", " + b + ")", full.reach(a, b), ALL - (1 << b));
                }
            }
        }
    }

    private static void oneSideCore() {
        oneSide(CutFinder::core);
    }

    private static void oneSideReach() {
        oneSide(CutFinder::reach);
    }

    private static void oneSide(Refusals.PairCall call) {
        for (int side = 1; side <= 62; side++) {
            CutFinder finder = Networks.parts(side, 30, 1);
            for (int a = 0; a <= 5; a++) {
                for (int b = 0; b <= 5; b++) {
                    if ((side >> a & 1) == 1 && (side >> b & 1) == 0) {
                        Checks.due(a + " from " + b + " at " + side, call.answer(finder, a, b), side);
                    }
                }
            }
        }
    }

    private static void pairsBelowAll() {
        CutFinder empty = new CutFinder();
        CutFinder full = Networks.full();
        for (int c : BELOW_ALL) {
            Checks.due("empty: pairsAtLeast(" + c + ")", empty.pairsAtLeast(c), 15);
            Checks.due("full: pairsAtLeast(" + c + ")", full.pairsAtLeast(c), 15);
        }
        Checks.due("empty: pairsAtLeast(0)", empty.pairsAtLeast(0), 15);
    }

    private static void pairsAboveAll() {
        CutFinder empty = new CutFinder();
        CutFinder full = Networks.full();
        for (int c : ABOVE_ALL) {
            Checks.due("empty: pairsAtLeast(" + c + ")", empty.pairsAtLeast(c), 0);
            Checks.due("full: pairsAtLeast(" + c + ")", full.pairsAtLeast(c), 0);
        }
        Checks.due("empty: pairsAtLeast(1)", empty.pairsAtLeast(1), 0);
    }

    private static void pairsAtTheCost() {
        for (int c = 0; c <= 30; c++) {
            CutFinder even = Networks.even(c);
            Checks.due("every capacity " + c + ", at least " + 5 * c, even.pairsAtLeast(5 * c), 15);
            Checks.due("every capacity " + c + ", at least " + (5 * c + 1), even.pairsAtLeast(5 * c + 1), 0);
        }
    }

    private static void eachPairOnce() {
        for (int a = 0; a <= 5; a++) {
            for (int b = 0; b <= 5; b++) {
                if (a != b) {
                    CutFinder finder = Networks.of(new int[] {a, b, 30});
                    Checks.due(a + "-" + b + " alone: pairsAtLeast(1)", finder.pairsAtLeast(1), 1);
                    Checks.due(a + "-" + b + " alone: pairsAtLeast(30)", finder.pairsAtLeast(30), 1);
                    Checks.due(a + "-" + b + " alone: pairsAtLeast(31)", finder.pairsAtLeast(31), 0);
                }
            }
        }
    }

    private static void groupOfWrong(int[] wrongPlaces) {
        int[] bounds = {Checks.MIN, -1, 0, 1, 150, Checks.MAX};
        CutFinder full = Networks.full();
        CutFinder empty = new CutFinder();
        for (int a : wrongPlaces) {
            for (int c : bounds) {
                Checks.due("full: group(" + a + ", " + c + ")", full.group(a, c), 0);
                Checks.due("empty: group(" + a + ", " + c + ")", empty.group(a, c), 0);
            }
        }
    }

    private static void groupAlone() {
        CutFinder empty = new CutFinder();
        CutFinder full = Networks.full();
        for (int a = 0; a <= 5; a++) {
            for (int c : ABOVE_ALL) {
                Checks.due("empty: group(" + a + ", " + c + ")", empty.group(a, c), 1 << a);
                Checks.due("full: group(" + a + ", " + c + ")", full.group(a, c), 1 << a);
            }
        }
    }

    private static void groupOfAll() {
        CutFinder empty = new CutFinder();
        CutFinder full = Networks.full();
        for (int a = 0; a <= 5; a++) {
            for (int c : BELOW_ALL) {
                Checks.due("empty: group(" + a + ", " + c + ")", empty.group(a, c), ALL);
                Checks.due("full: group(" + a + ", " + c + ")", full.group(a, c), ALL);
            }
        }
    }

    private static void groupAtTheCost() {
        for (int c = 0; c <= 30; c++) {
            CutFinder even = Networks.even(c);
            for (int a = 0; a <= 5; a++) {
                Checks.due("every capacity " + c + ": group(" + a + ", " + 5 * c + ")", even.group(a, 5 * c), ALL);
                int more = 5 * c + 1;
                Checks.due("every capacity " + c + ": group(" + a + ", " + more + ")", even.group(a, more), 1 << a);
            }
        }
    }
}
