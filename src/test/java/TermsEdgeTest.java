/** The boundary cases that "What it is", "Terms" and promise 1 name: one test for each. */
final class TermsEdgeTest {
    private static final int LAST_CALL = 512;
    private static final int KINDS = 13;
    /** What ask answers on the path, by kind. */
    private static final int[] DUE = {1, 20, 3, 3, 3, 5, 60, 3, 5, 7, 60, 3, 1};

    private TermsEdgeTest() {
    }

    public static void main(String[] args) {
        Checks.sentence("What it is: at most 512 calls: the 512th is answered as the first", TermsEdgeTest::lastCall);
        Checks.sentence("What it is: at most 512 calls: as many may be sets", TermsEdgeTest::lastSet);
        Checks.sentence("Terms: a capacity (0 .. 30)", TermsEdgeTest::everyCapacity);
        Checks.sentence("Terms: 0 at first; Promise 1: all capacities 0", TermsEdgeTest::zeroAtFirst);
        Checks.sentence("Promise 1: all capacities 0, in what every call answers", TermsEdgeTest::newAnswers);
        Checks.sentence("Promise 1: a new object, whatever others hold", TermsEdgeTest::ownCapacities);
        Checks.sentence("Terms: the same both ways", TermsEdgeTest::sameBothWays);
        Checks.sentence("Terms: the same both ways: the later set counts", TermsEdgeTest::laterSetCounts);
        Checks.sentence("Terms: a side is not empty", TermsEdgeTest::notEmpty);
        Checks.sentence("Terms: a side is not all", TermsEdgeTest::notAll);
        Checks.sentence("Terms: bit i for place i", TermsEdgeTest::bitForPlace);
        Checks.sentence("Terms: the cost counts what leaves the side alone", TermsEdgeTest::onlyAcross);
        Checks.sentence("Terms: a is in the side and b is not", TermsEdgeTest::separates);
        Checks.end();
    }

    private static int ask(CutFinder finder, int kind) {
        switch (kind) {
            case 0: return finder.set(4, 5, 7) ? 1 : 0;
            case 1: return finder.capacity(3, 2);
            case 2: return finder.cost(3);
            case 3: return finder.least();
            case 4: return finder.leastSide();
            case 5: return finder.between(2, 5);
            case 6: return finder.core(5, 0);
            case 7: return finder.reach(0, 5);
            case 8: return finder.forced(7, 0);
            case 9: return finder.pairsAtLeast(4);
            case 10: return finder.group(3, 5);
            case 11: return finder.loss(1, 2);
            default: return finder.tight(0, 5, 1, 2) ? 1 : 0;
        }
    }

    private static void lastCall() {
        int setsOfPath = 5;
        for (int first = 0; first < KINDS; first++) {
            CutFinder finder = Networks.path();
            for (int call = setsOfPath + 1; call <= LAST_CALL; call++) {
                int kind = (first + call) % KINDS;
                Checks.due("call " + call + " of kind " + kind, ask(finder, kind), DUE[kind]);
            }
        }
    }

    private static void lastSet() {
        CutFinder finder = new CutFinder();
        for (int call = 1; call < LAST_CALL; call++) {
            Checks.due("call " + call, finder.set(call % 5, 5, call % 31), true);
        }
        // The 511th call set 1-5 to 15.
        Checks.due("call 512", finder.capacity(5, 1), 15);
    }

    private static void everyCapacity() {
        for (int c = 0; c <= 30; c++) {
            CutFinder finder = new CutFinder();
            for (int a = 0; a <= 5; a++) {
                for (int b = a + 1; b <= 5; b++) {
                    String words = "(" + a + ", " + b + ", " + c + ")";
                    Checks.due("set" + words, finder.set(a, b, c), true);
                    Checks.due("capacity after set" + words, finder.capacity(a, b), c);
                }
            }
            Checks.due("cost(7) with every capacity " + c, finder.cost(7), 9 * c);
        }
    }

    private static void zeroAtFirst() {
        Networks.isTable(new CutFinder(), new int[6][6]);
    }

    private static void newAnswers() {
        CutFinder finder = new CutFinder();
        for (int side = 1; side <= 62; side++) {
            Checks.due("new: cost(" + side + ")", finder.cost(side), 0);
            Checks.due("new: forced(" + side + ", rest)", finder.forced(side, 63 - side), 0);
        }
        Checks.due("new: least()", finder.least(), 0);
        Checks.due("new: leastSide()", finder.leastSide(), 1);
        Checks.due("new: pairsAtLeast(0)", finder.pairsAtLeast(0), 15);
        Checks.due("new: pairsAtLeast(1)", finder.pairsAtLeast(1), 0);
        for (int a = 0; a <= 5; a++) {
            Checks.due("new: group(" + a + ", 0)", finder.group(a, 0), 63);
            Checks.due("new: group(" + a + ", 1)", finder.group(a, 1), 1 << a);
            for (int b = 0; b <= 5; b++) {
                if (a != b) {
                    newPair(finder, a, b);
                }
            }
        }
    }

    private static void newPair(CutFinder finder, int a, int b) {
        String words = "(" + a + ", " + b + ")";
        Checks.due("new: between" + words, finder.between(a, b), 0);
        Checks.due("new: core" + words, finder.core(a, b), 1 << a);
        Checks.due("new: reach" + words, finder.reach(a, b), 63 - (1 << b));
        Checks.due("new: loss" + words, finder.loss(a, b), 0);
        Checks.due("new: tight of the pair itself " + words, finder.tight(a, b, b, a), true);
    }

    private static void ownCapacities() {
        CutFinder older = Networks.full();
        CutFinder finder = new CutFinder();
        Networks.isTable(finder, new int[6][6]);
        Checks.due("set(0, 1, 4)", finder.set(0, 1, 4), true);
        Checks.due("the older one keeps its own", older.capacity(0, 1), 30);
        Checks.due("a third one is new", new CutFinder().capacity(0, 1), 0);
    }

    private static void sameBothWays() {
        for (int a = 0; a <= 5; a++) {
            for (int b = 0; b <= 5; b++) {
                if (a != b) {
                    CutFinder finder = Networks.of(new int[] {a, b, 17});
                    Networks.isTable(finder, Networks.tableWith(new int[6][6], a, b, 17));
                    Checks.due("cost of one of them", finder.cost(1 << a), 17);
                    Checks.due("cost of the other", finder.cost(1 << b), 17);
                }
            }
        }
    }

    private static void laterSetCounts() {
        CutFinder finder = Networks.of(new int[] {1, 4, 30}, new int[] {4, 1, 2});
        Checks.due("capacity(1, 4)", finder.capacity(1, 4), 2);
        Checks.due("capacity(4, 1)", finder.capacity(4, 1), 2);
        Checks.due("cost(2)", finder.cost(2), 2);
        Checks.due("cost(16)", finder.cost(16), 2);
    }

    /** The empty set would cost nothing, and every side of this network costs 150 or more. */
    private static void notEmpty() {
        CutFinder finder = Networks.full();
        Checks.due("cost(0)", finder.cost(0), Checks.BAD);
        Checks.due("least()", finder.least(), 150);
        Checks.due("forced(0, 0)", finder.forced(0, 0), 150);
        for (int place = 0; place <= 5; place++) {
            Checks.due("forced(0, all but " + place + ")", finder.forced(0, 63 - (1 << place)), 150);
            Checks.due("forced(0, " + place + ")", finder.forced(0, 1 << place), 150);
        }
        Checks.due("loss(2, 4)", finder.loss(2, 4), 30);
    }

    /** The set of all would cost nothing too. */
    private static void notAll() {
        CutFinder finder = Networks.full();
        Checks.due("cost(63)", finder.cost(63), Checks.BAD);
        Checks.due("least()", finder.least(), 150);
        Checks.due("leastSide()", finder.leastSide(), 1);
        for (int place = 0; place <= 5; place++) {
            Checks.due("forced(all but " + place + ", 0)", finder.forced(63 - (1 << place), 0), 150);
            Checks.due("forced(" + place + ", 0)", finder.forced(1 << place, 0), 150);
        }
        Checks.due("loss(2, 4)", finder.loss(2, 4), 30);
    }

    private static void bitForPlace() {
        // Place i hangs on place 0 by i, so that its own side costs i.
        CutFinder finder = Networks.of(
            new int[] {0, 1, 1}, new int[] {0, 2, 2}, new int[] {0, 3, 3}, new int[] {0, 4, 4}, new int[] {0, 5, 5});
        Checks.due("cost(1)", finder.cost(1), 15);
        for (int place = 1; place <= 5; place++) {
            Checks.due("cost of place " + place, finder.cost(1 << place), place);
            Checks.due("core(" + place + ", 0)", finder.core(place, 0), 1 << place);
            Checks.due("group(0, " + place + ")", finder.group(0, place), 64 - (1 << place) + 1);
        }
    }

    private static void onlyAcross() {
        for (int side = 1; side <= 62; side++) {
            int size = Integer.bitCount(side);
            Checks.due("cost of " + side + ", all inside", Networks.parts(side, 30, 0).cost(side), 0);
            Checks.due("cost of " + side + ", all across", Networks.parts(side, 0, 30).cost(side), 30 * size * (6 - size));
        }
    }

    private static void separates() {
        for (int side = 1; side <= 62; side++) {
            CutFinder finder = Networks.parts(side, 30, 1);
            int a = Integer.numberOfTrailingZeros(side);
            int b = Integer.numberOfTrailingZeros(63 - side);
            Checks.due("core(" + a + ", " + b + ")", finder.core(a, b), side);
            Checks.due("reach(" + a + ", " + b + ")", finder.reach(a, b), side);
            Checks.due("core(" + b + ", " + a + ")", finder.core(b, a), 63 - side);
            Checks.due("reach(" + b + ", " + a + ")", finder.reach(b, a), 63 - side);
        }
    }
}
