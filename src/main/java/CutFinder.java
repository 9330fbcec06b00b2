/** Finds where a small network is cut most cheaply. */
public final class CutFinder {
    public static final int BAD = -1;

    private static final int PLACES = 6;
    private static final int ALL_PLACES = 63;
    private static final int MOST_CAPACITY = 30;
    private static final int CELLS = 36;

    // Every capacity stands in two cells, so that a pair is read in either order.
    private final int[] capacities = new int[CELLS];

    public CutFinder() {
    }

    public boolean set(int a, int b, int c) {
        if (!isPair(a, b) || c < 0 || c > MOST_CAPACITY) {
            return false;
        }
        capacities[a * PLACES + b] = c;
        capacities[b * PLACES + a] = c;
        return true;
    }

    public int capacity(int a, int b) {
        if (!isPair(a, b)) {
            return BAD;
        }
        return capacities[a * PLACES + b];
    }

    public int cost(int side) {
        if (side < 1 || side >= ALL_PLACES) {
            return BAD;
        }
        return costOf(side);
    }

    public int least() {
        return leastCost(0, 0);
    }

    public int leastSide() {
        int best = 1;
        int bestCost = costOf(1);
        // The sides that have place 0 are the odd ones; the first of equals is the least number.
        for (int side = 3; side < ALL_PLACES; side += 2) {
            int sideCost = costOf(side);
            if (sideCost < bestCost) {
                best = side;
                bestCost = sideCost;
            }
        }
        return best;
    }

    public int between(int a, int b) {
        if (!isPair(a, b)) {
            return BAD;
        }
        return leastCost(1 << a, 1 << b);
    }

    public int core(int a, int b) {
        if (!isPair(a, b)) {
            return 0;
        }
        int least = leastCost(1 << a, 1 << b);
        int common = ALL_PLACES;
        for (int side = 1; side < ALL_PLACES; side++) {
            if (separatesAt(side, a, b, least)) {
                common &= side;
            }
        }
        return common;
    }

    public int reach(int a, int b) {
        if (!isPair(a, b)) {
            return 0;
        }
        int least = leastCost(1 << a, 1 << b);
        int joined = 0;
        for (int side = 1; side < ALL_PLACES; side++) {
            if (separatesAt(side, a, b, least)) {
                joined |= side;
            }
        }
        return joined;
    }

    public int forced(int in, int out) {
        // A negative number has bits above the places too, so the masks catch it.
        if ((in & ~ALL_PLACES) != 0 || (out & ~ALL_PLACES) != 0) {
            return BAD;
        }
        return leastCost(in, out);
    }

    public int pairsAtLeast(int c) {
        int pairs = 0;
        for (int a = 0; a < PLACES; a++) {
            for (int b = a + 1; b < PLACES; b++) {
                if (leastCost(1 << a, 1 << b) >= c) {
                    pairs++;
                }
            }
        }
        return pairs;
    }

    public int group(int a, int c) {
        if (!isPlace(a)) {
            return 0;
        }
        int members = 1 << a;
        for (int b = 0; b < PLACES; b++) {
            if (b != a && leastCost(1 << a, 1 << b) >= c) {
                members |= 1 << b;
            }
        }
        return members;
    }

    public int loss(int a, int b) {
        if (!isPair(a, b)) {
            return BAD;
        }
        int before = leastCost(0, 0);
        int dropped = capacities[a * PLACES + b];
        int after = before;
        for (int side = 1; side < ALL_PLACES; side++) {
            int sideCost = costOf(side);
            if (splits(side, a, b)) {
                sideCost -= dropped;
            }
            if (sideCost < after) {
                after = sideCost;
            }
        }
        return before - after;
    }

    public boolean tight(int a, int b, int x, int y) {
        if (!isPair(a, b) || !isPair(x, y)) {
            return false;
        }
        // A cheapest side that keeps x and y together would stay as cheap as it is.
        int least = leastCost(1 << a, 1 << b);
        for (int side = 1; side < ALL_PLACES; side++) {
            if (separatesAt(side, a, b, least) && !splits(side, x, y)) {
                return false;
            }
        }
        return true;
    }

    private static boolean isPlace(int a) {
        return a >= 0 && a < PLACES;
    }

    private static boolean isPair(int a, int b) {
        return isPlace(a) && isPlace(b) && a != b;
    }

    private static boolean fits(int side, int in, int out) {
        return (side & in) == in && (side & out) == 0;
    }

    private static boolean splits(int side, int a, int b) {
        return ((side >> a) & 1) != ((side >> b) & 1);
    }

    private boolean separatesAt(int side, int a, int b, int sideCost) {
        return fits(side, 1 << a, 1 << b) && costOf(side) == sideCost;
    }

    private int costOf(int side) {
        int sum = 0;
        for (int a = 0; a < PLACES; a++) {
            for (int b = a + 1; b < PLACES; b++) {
                if (splits(side, a, b)) {
                    sum += capacities[a * PLACES + b];
                }
            }
        }
        return sum;
    }

    // BAD, below every cost, stands for "no side yet", and is the answer if none fits.
    private int leastCost(int in, int out) {
        int least = BAD;
        for (int side = 1; side < ALL_PLACES; side++) {
            if (fits(side, in, out)) {
                int sideCost = costOf(side);
                if (least == BAD || sideCost < least) {
                    least = sideCost;
                }
            }
        }
        return least;
    }
}
