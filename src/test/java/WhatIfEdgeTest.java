/** The boundary cases that promises 13 and 14 name: one test for each. */
final class WhatIfEdgeTest {
    private static final int[] PLACES = {0, 1, 2, 3, 4, 5};

    private WhatIfEdgeTest() {
    }

    public static void main(String[] args) {
        Refusals.ofPairs("Promise 13", CutFinder::loss, Checks.BAD);
        Checks.sentence("Promise 13: a fall by 0 where the capacity is 0 already", WhatIfEdgeTest::lossOfNothing);
        Checks.sentence("Promise 13: a fall by 0 where the least cost is 0 already", WhatIfEdgeTest::lossFromNothing);
        Checks.sentence("Promise 13: a fall to 0, by less than the capacity", WhatIfEdgeTest::lossToNothing);
        Checks.sentence("Promise 13: a fall by the whole capacity, 30", WhatIfEdgeTest::lossOfMost);
        Checks.sentence("Promise 13: would fall: nothing is changed", WhatIfEdgeTest::lossChangesNothing);
        Checks.sentence("Promise 14: false when a = b", WhatIfEdgeTest::tightOfEqualPlaces);
        Checks.sentence("Promise 14: false when x = y", WhatIfEdgeTest::tightByEqualPlaces);
        for (int position = 0; position < 4; position++) {
            int wrongOne = position;
            String name = "Promise 14: false when " + "abxy".charAt(position);
            Checks.sentence(name + " is less than 0", () -> oneWrong(wrongOne, Refusals.TOO_SMALL));
            Checks.sentence(name + " is more than 5", () -> oneWrong(wrongOne, Refusals.TOO_LARGE));
        }
        Checks.sentence("Promise 14: false when more than one is wrong", WhatIfEdgeTest::moreWrong);
        Checks.sentence("Promise 14: true when x and y are a and b, whatever the capacities", WhatIfEdgeTest::tightOfItself);
        Checks.sentence("Promise 14: the capacity is 30 already: it would rise", WhatIfEdgeTest::tightAtMost);
        Checks.sentence("Promise 14: the capacity is 30 already: it would not rise", WhatIfEdgeTest::notTightAtMost);
        Checks.sentence("Promise 14: a side that keeps x and y together is as cheap", WhatIfEdgeTest::otherSideAsCheap);
        Checks.sentence("Promise 14: would rise: nothing is changed", WhatIfEdgeTest::tightChangesNothing);
        Checks.end();
    }

    private static void lossOfNothing() {
        for (int side = 1; side <= 62; side++) {
            int size = Integer.bitCount(side);
            int apart = Integer.numberOfTrailingZeros(side);
            int other = Integer.numberOfTrailingZeros(63 - side);
            CutFinder finder = Networks.parts(side, 30, 2);
            finder.set(apart, other, 0);
            Checks.due("least()", finder.least(), 2 * size * (6 - size) - 2);
            Checks.due("loss(" + apart + ", " + other + ")", finder.loss(apart, other), 0);
            Checks.due("loss(" + other + ", " + apart + ")", finder.loss(other, apart), 0);
        }
    }

    private static void lossFromNothing() {
        CutFinder finder = Networks.parts(7, 30, 0);
        CutFinder empty = new CutFinder();
        for (int a : PLACES) {
            for (int b : PLACES) {
                if (a != b) {
                    Checks.due("two parts: loss(" + a + ", " + b + ")", finder.loss(a, b), 0);
                    Checks.due("empty: loss(" + a + ", " + b + ")", empty.loss(a, b), 0);
                }
            }
        }
    }

    private static void lossToNothing() {
        CutFinder finder = Networks.path();
        for (int a = 0; a < 5; a++) {
            Checks.due("loss(" + a + ", " + (a + 1) + ")", finder.loss(a, a + 1), 3);
            Checks.due("loss(" + (a + 1) + ", " + a + ")", finder.loss(a + 1, a), 3);
        }
        Checks.due("least()", finder.least(), 3);
    }

    private static void lossOfMost() {
        CutFinder finder = Networks.full();
        for (int a : PLACES) {
            for (int b : PLACES) {
                if (a != b) {
                    Checks.due("loss(" + a + ", " + b + ")", finder.loss(a, b), 30);
                }
            }
        }
    }

    private static void lossChangesNothing() {
        for (int[][] table : Networks.tables()) {
            CutFinder finder = Networks.fromTable(table);
            for (int a : PLACES) {
                for (int b : PLACES) {
                    finder.loss(a, b);
                }
            }
            finder.loss(-1, 6);
            Networks.isTable(finder, table);
        }
    }

    /** No side has a and has it not, so a program that looks at such sides alone would answer true. */
    private static void tightOfEqualPlaces() {
        for (int a : PLACES) {
            for (CutFinder finder : Networks.several()) {
                for (int pair = 0; pair < 36; pair++) {
                    notTight(finder, a, a, pair / 6, pair % 6);
                }
            }
        }
    }

    private static void tightByEqualPlaces() {
        for (int x : PLACES) {
            for (CutFinder finder : Networks.several()) {
                for (int pair = 0; pair < 36; pair++) {
                    notTight(finder, pair / 6, pair % 6, x, x);
                }
            }
        }
    }

    private static void oneWrong(int position, int[] wrongPlaces) {
        for (int wrong : wrongPlaces) {
            for (CutFinder finder : Networks.several()) {
                for (int rest = 0; rest < 216; rest++) {
                    int[] args = {rest / 36, rest / 6 % 6, rest % 6, 0};
                    // The place that makes room for the wrong one is asked last instead.
                    args[3] = args[position];
                    args[position] = wrong;
                    notTight(finder, args[0], args[1], args[2], args[3]);
                }
            }
        }
    }

    private static void moreWrong() {
        int[] places = {-1, 6, 32, -32, Checks.MIN, Checks.MAX, 0, 5};
        for (int a : places) {
            for (int b : places) {
                CutFinder finder = Networks.full();
                for (int x : places) {
                    for (int y : places) {
                        if (!Checks.isPair(a, b) || !Checks.isPair(x, y)) {
                            notTight(finder, a, b, x, y);
                        }
                    }
                }
            }
        }
    }

    private static void notTight(CutFinder finder, int a, int b, int x, int y) {
        Checks.due("tight(" + a + ", " + b + ", " + x + ", " + y + ")", finder.tight(a, b, x, y), false);
    }

    private static void tightOfItself() {
        CutFinder[] networks = {new CutFinder(), Networks.path(), Networks.mixed(), Networks.even(29), Networks.full()};
        for (CutFinder finder : networks) {
            for (int a : PLACES) {
                for (int b : PLACES) {
                    if (a != b) {
                        Checks.due("tight of " + a + ", " + b, finder.tight(a, b, a, b), true);
                        Checks.due("tight of " + a + ", " + b + " turned", finder.tight(a, b, b, a), true);
                    }
                }
            }
        }
    }

    /** 31 is what set would refuse; the promise asks what would be, and names no such case among the false ones. */
    private static void tightAtMost() {
        CutFinder alone = Networks.of(new int[] {0, 1, 30});
        Checks.due("0-1 alone: tight(0, 1, 0, 1)", alone.tight(0, 1, 0, 1), true);
        Checks.due("capacity(0, 1) after that", alone.capacity(0, 1), 30);
        // The thin place is the one capacity of 30, with two capacities of 30 on either hand of it.
        CutFinder bridge = Networks.of(new int[] {0, 1, 30}, new int[] {0, 2, 30}, new int[] {1, 2, 30},
            new int[] {3, 4, 30}, new int[] {3, 5, 30}, new int[] {4, 5, 30}, new int[] {2, 3, 30});
        Checks.due("bridge of 30: tight(0, 5, 2, 3)", bridge.tight(0, 5, 2, 3), true);
        Checks.due("bridge of 30: tight(5, 0, 3, 2)", bridge.tight(5, 0, 3, 2), true);
        CutFinder full = Networks.full();
        for (int a : PLACES) {
            for (int b : PLACES) {
                if (a != b) {
                    Checks.due("full: tight of " + a + ", " + b, full.tight(a, b, a, b), true);
                }
            }
        }
    }

    private static void notTightAtMost() {
        CutFinder chain = Networks.of(new int[] {0, 1, 30}, new int[] {1, 2, 30});
        Checks.due("chain of 30: tight(0, 2, 0, 1)", chain.tight(0, 2, 0, 1), false);
        Checks.due("chain of 30: tight(0, 2, 1, 2)", chain.tight(0, 2, 1, 2), false);
        Checks.due("chain of 30: tight(0, 1, 1, 2)", chain.tight(0, 1, 1, 2), false);
        CutFinder full = Networks.full();
        for (int other = 2; other <= 5; other++) {
            Checks.due("full: tight(0, 1, 0, " + other + ")", full.tight(0, 1, 0, other), false);
            Checks.due("full: tight(0, 1, 1, " + other + ")", full.tight(0, 1, 1, other), false);
        }
    }

    private static void otherSideAsCheap() {
        CutFinder chain = Networks.of(new int[] {0, 1, 9}, new int[] {1, 2, 10});
        Checks.due("9 and 10: tight(0, 2, 0, 1)", chain.tight(0, 2, 0, 1), true);
        Checks.due("9 and 10: tight(0, 2, 1, 2)", chain.tight(0, 2, 1, 2), false);
        chain.set(0, 1, 10);
        Checks.due("10 and 10: tight(0, 2, 0, 1)", chain.tight(0, 2, 0, 1), false);
        Checks.due("10 and 10: tight(0, 2, 1, 2)", chain.tight(0, 2, 1, 2), false);
        chain.set(0, 1, 11);
        Checks.due("11 and 10: tight(0, 2, 0, 1)", chain.tight(0, 2, 0, 1), false);
        Checks.due("11 and 10: tight(0, 2, 1, 2)", chain.tight(0, 2, 1, 2), true);
    }

    private static void tightChangesNothing() {
        for (int[][] table : Networks.tables()) {
            for (int a : PLACES) {
                CutFinder finder = Networks.fromTable(table);
                for (int b : PLACES) {
                    for (int pair = 0; pair < 36; pair++) {
                        finder.tight(a, b, pair / 6, pair % 6);
                    }
                }
                finder.tight(a, 6, -1, 0);
                Networks.isTable(finder, table);
            }
        }
    }
}
