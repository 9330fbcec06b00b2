/** The boundary cases that promises 4, 5, 6 and 10 name: one test for each. */
final class SideEdgeTest {
    private static final int BAD = Checks.BAD;
    private static final int ALL = 63;
    private static final FlowModel MIXED = new FlowModel(Networks.MIXED);

    private SideEdgeTest() {
    }

    public static void main(String[] args) {
        Checks.sentence("Promise 4: every number 1 .. 62 is a side", SideEdgeTest::everySide);
        Checks.sentence("Promise 4: BAD when it is empty (0)", () -> noSides(0));
        Checks.sentence("Promise 4: BAD when it is all (63)", () -> noSides(ALL));
        Checks.sentence("Promise 4: BAD when it is less than 1", () -> noSides(-1, -2, -62, -63, -64));
        Checks.sentence("Promise 4: BAD when it is more than 62", () -> noSides(64, 65, 126, 127, 128, Checks.MAX));
        Checks.sentence("Promise 4: BAD when a side has other bits too", SideEdgeTest::sidesWithOtherBits);
        Checks.sentence("Promise 4: a cost of 0 is not BAD", SideEdgeTest::freeSides);
        Checks.sentence("Promise 5: the least cost where it is 0", SideEdgeTest::leastIsNothing);
        Checks.sentence("Promise 5: the least cost where it is greatest", SideEdgeTest::leastIsGreatest);
        Checks.sentence("Promise 5: any side may be the cheapest", SideEdgeTest::anySideIsLeast);
        Checks.sentence("Promise 6: the side has place 0", SideEdgeTest::hasPlaceZero);
        Checks.sentence("Promise 6: the least number of those of the least cost", SideEdgeTest::leastNumber);
        Checks.sentence("Promise 6: the least cost counts before the number", SideEdgeTest::costBeforeNumber);
        Checks.sentence("Promise 10: in and out are both empty", SideEdgeTest::nothingForced);
        Checks.sentence("Promise 10: in and out leave one side", SideEdgeTest::oneSideLeft);
        Checks.sentence("Promise 10: all places of in, and none of out", SideEdgeTest::everySetForced);
        Checks.sentence("Promise 10: BAD when in has bits other than those of places", SideEdgeTest::otherBitsIn);
        Checks.sentence("Promise 10: BAD when out has bits other than those of places", SideEdgeTest::otherBitsOut);
        Checks.sentence("Promise 10: BAD when in and out share a place", SideEdgeTest::shared);
        Checks.sentence("Promise 10: BAD when in is all, so that no side is left", SideEdgeTest::allIn);
        Checks.sentence("Promise 10: BAD when out is all, so that no side is left", SideEdgeTest::allOut);
        Checks.sentence("Promise 10: a cost of 0 is not BAD", SideEdgeTest::forcedIsNothing);
        Checks.end();
    }

    private static void everySide() {
        CutFinder finder = Networks.mixed();
        for (int side = 1; side <= 62; side++) {
            Checks.due("cost(" + side + ")", finder.cost(side), MIXED.cost(side));
        }
        // By hand: what leaves place 0, and what leaves the others towards it.
        Checks.due("cost(1)", finder.cost(1), 0 + 30 + 1 + 29 + 2);
        Checks.due("cost(62)", finder.cost(62), 0 + 30 + 1 + 29 + 2);
        Checks.due("cost(32)", finder.cost(32), 2 + 4 + 25 + 24 + 7);
        Checks.due("full: cost(7)", Networks.full().cost(7), 270);
    }

    private static void noSides(int... numbers) {
        CutFinder full = Networks.full();
        CutFinder empty = new CutFinder();
        for (int number : numbers) {
            Checks.due("full: cost(" + number + ")", full.cost(number), BAD);
            Checks.due("empty: cost(" + number + ")", empty.cost(number), BAD);
        }
    }

    private static void sidesWithOtherBits() {
        for (int bit = 6; bit <= 31; bit++) {
            CutFinder finder = Networks.full();
            for (int side = 0; side <= ALL; side++) {
                int number = side | 1 << bit;
                Checks.due("cost(" + number + ")", finder.cost(number), BAD);
                Checks.due("cost(" + (side - 64 * (bit - 5)) + ")", finder.cost(side - 64 * (bit - 5)), BAD);
            }
        }
    }

    private static void freeSides() {
        for (int side = 1; side <= 62; side++) {
            Checks.due("cost(" + side + ")", Networks.parts(side, 30, 0).cost(side), 0);
        }
    }

    private static void leastIsNothing() {
        Checks.due("empty: least()", new CutFinder().least(), 0);
        for (int place = 0; place <= 5; place++) {
            Checks.due("place " + place + " joined to none: least()", Networks.parts(1 << place, 30, 0).least(), 0);
        }
        Checks.due("one capacity alone: least()", Networks.of(new int[] {0, 5, 30}).least(), 0);
    }

    private static void leastIsGreatest() {
        Checks.due("every capacity 30: least()", Networks.full().least(), 150);
        Checks.due("every capacity 1: least()", Networks.even(1).least(), 5);
    }

    private static void anySideIsLeast() {
        for (int side = 1; side <= 62; side++) {
            int size = Integer.bitCount(side);
            CutFinder finder = Networks.parts(side, 30, 1);
            Checks.due("least() at " + side, finder.least(), size * (6 - size));
        }
    }

    private static void hasPlaceZero() {
        for (int side = 1; side <= 62; side++) {
            int want = side % 2 == 1 ? side : ALL - side;
            Checks.due("leastSide() at " + side + " by 1", Networks.parts(side, 30, 1).leastSide(), want);
            Checks.due("leastSide() at " + side + " by 0", Networks.parts(side, 30, 0).leastSide(), want);
        }
    }

    private static void leastNumber() {
        Checks.due("empty", new CutFinder().leastSide(), 1);
        Checks.due("full", Networks.full().leastSide(), 1);
        Checks.due("a ring", Networks.of(new int[] {0, 1, 4}, new int[] {1, 2, 4}, new int[] {2, 3, 4},
            new int[] {3, 4, 4}, new int[] {4, 5, 4}, new int[] {5, 0, 4}).leastSide(), 1);
        Checks.due("all hang on 0 by 1: five ones without one place", star(0, 1, 1, 1, 1, 1).leastSide(), 31);
        Checks.due("all hang on 0, place 5 by 2", star(0, 1, 1, 1, 1, 2).leastSide(), 47);
        Checks.due("all hang on 0, places 4 and 5 by 2", star(0, 1, 1, 1, 2, 2).leastSide(), 55);
        Checks.due("all hang on 5 by 1", star(5, 1, 1, 1, 1, 1).leastSide(), 1);
        Checks.due("all hang on 5, place 0 by 2", star(5, 2, 1, 1, 1, 1).leastSide(), 47);
        Checks.due("0 and 1 alone are joined", Networks.of(new int[] {0, 1, 30}).leastSide(), 3);
        Checks.due("0 and 5 alone are joined", Networks.of(new int[] {0, 5, 30}).leastSide(), 33);
        Checks.due("1 and 5 alone are joined", Networks.of(new int[] {1, 5, 30}).leastSide(), 1);
    }

    /** A network where the other places hang on one, by the capacities in their order. */
    private static CutFinder star(int middle, int... arms) {
        CutFinder finder = new CutFinder();
        int next = 0;
        for (int arm : arms) {
            next += next == middle ? 1 : 0;
            finder.set(middle, next, arm);
            next++;
        }
        return finder;
    }

    private static void costBeforeNumber() {
        CutFinder finder = Networks.full();
        for (int b = 0; b <= 4; b++) {
            finder.set(5, b, b == 2 ? 29 : 30);
        }
        // Places 2 and 5 cost 149 alone, all others 150; the greater place leaves the lesser number.
        Checks.due("one capacity of 29: leastSide()", finder.leastSide(), 31);
        finder.set(2, 5, 30);
        finder.set(1, 2, 29);
        Checks.due("29 between 1 and 2: leastSide()", finder.leastSide(), 59);
        finder.set(1, 3, 29);
        Checks.due("1 by 29 twice: leastSide()", finder.leastSide(), 61);
        finder.set(0, 4, 28);
        Checks.due("0 and 4 by 28, as cheap as 1: leastSide()", finder.leastSide(), 1);
    }

    private static void nothingForced() {
        Checks.due("empty: forced(0, 0)", new CutFinder().forced(0, 0), 0);
        Checks.due("full: forced(0, 0)", Networks.full().forced(0, 0), 150);
        Checks.due("path: forced(0, 0)", Networks.path().forced(0, 0), 3);
    }

    private static void oneSideLeft() {
        CutFinder finder = Networks.mixed();
        for (int side = 1; side <= 62; side++) {
            Checks.due("forced(" + side + ", the others)", finder.forced(side, ALL - side), MIXED.cost(side));
        }
        for (int place = 0; place <= 5; place++) {
            int bit = 1 << place;
            Checks.due("forced(all but " + place + ", 0)", finder.forced(ALL - bit, 0), MIXED.cost(bit));
            Checks.due("forced(0, all but " + place + ")", finder.forced(0, ALL - bit), MIXED.cost(bit));
        }
    }

    /** Every capacity is 30, so only the number of places counts, and the fewest or the most are the cheapest. */
    private static void everySetForced() {
        for (int in = 0; in <= ALL; in++) {
            CutFinder finder = Networks.full();
            for (int out = 0; out <= ALL; out++) {
                if ((in & out) == 0 && in != ALL && out != ALL) {
                    int fewest = Math.max(1, Integer.bitCount(in));
                    int most = Math.min(5, 6 - Integer.bitCount(out));
                    int want = 30 * Math.min(fewest * (6 - fewest), most * (6 - most));
                    Checks.due("forced(" + in + ", " + out + ")", finder.forced(in, out), want);
                }
            }
        }
    }

    private static void otherBitsIn() {
        for (int bit = 6; bit <= 31; bit++) {
            CutFinder finder = Networks.full();
            for (int in = 0; in <= ALL; in++) {
                int number = in | 1 << bit;
                Checks.due("forced(" + number + ", 0)", finder.forced(number, 0), BAD);
                Checks.due("forced(" + number + ", the others)", finder.forced(number, ALL & ~number), BAD);
            }
        }
        otherBitsBoth();
        CutFinder finder = new CutFinder();
        for (int number : new int[] {-1, -2, -63, -64, Checks.MIN, Checks.MIN + 1, Checks.MAX, Checks.MAX - 1}) {
            Checks.due("empty: forced(" + number + ", 0)", finder.forced(number, 0), BAD);
            Checks.due("empty: forced(" + number + ", 1)", finder.forced(number, 1), BAD);
        }
    }

    private static void otherBitsOut() {
        for (int bit = 6; bit <= 31; bit++) {
            CutFinder finder = Networks.full();
            for (int out = 0; out <= ALL; out++) {
                int number = out | 1 << bit;
                Checks.due("forced(0, " + number + ")", finder.forced(0, number), BAD);
                Checks.due("forced(the others, " + number + ")", finder.forced(ALL & ~number, number), BAD);
            }
        }
        otherBitsBoth();
        CutFinder finder = new CutFinder();
        for (int number : new int[] {-1, -2, -63, -64, Checks.MIN, Checks.MIN + 1, Checks.MAX, Checks.MAX - 1}) {
            Checks.due("empty: forced(0, " + number + ")", finder.forced(0, number), BAD);
            Checks.due("empty: forced(1, " + number + ")", finder.forced(1, number), BAD);
        }
    }

    private static void otherBitsBoth() {
        CutFinder finder = Networks.full();
        for (int bit = 6; bit <= 31; bit++) {
            int other = bit == 31 ? 6 : bit + 1;
            Checks.due("bits " + bit + " and " + bit, finder.forced(1 << bit, 1 << bit), BAD);
            Checks.due("bits " + bit + " and " + other, finder.forced(1 | 1 << bit, 2 | 1 << other), BAD);
        }
    }

    private static void shared() {
        for (int in = 1; in <= ALL; in++) {
            CutFinder finder = Networks.full();
            CutFinder empty = new CutFinder();
            for (int out = 1; out <= ALL; out++) {
                if ((in & out) != 0) {
                    Checks.due("full: forced(" + in + ", " + out + ")", finder.forced(in, out), BAD);
                    Checks.due("empty: forced(" + in + ", " + out + ")", empty.forced(in, out), BAD);
                }
            }
        }
    }

    private static void allIn() {
        Checks.due("full: forced(63, 0)", Networks.full().forced(ALL, 0), BAD);
        Checks.due("empty: forced(63, 0)", new CutFinder().forced(ALL, 0), BAD);
    }

    private static void allOut() {
        Checks.due("full: forced(0, 63)", Networks.full().forced(0, ALL), BAD);
        Checks.due("empty: forced(0, 63)", new CutFinder().forced(0, ALL), BAD);
    }

    private static void forcedIsNothing() {
        for (int side = 1; side <= 62; side++) {
            CutFinder finder = Networks.parts(side, 30, 0);
            Checks.due("forced(" + side + ", 0)", finder.forced(side, 0), 0);
            Checks.due("forced(0, " + side + ")", finder.forced(0, side), 0);
            Checks.due("forced(" + side + ", the others)", finder.forced(side, ALL - side), 0);
        }
    }
}
