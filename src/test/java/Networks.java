import java.util.Arrays;

/** The networks that the tests ask, each in a new object, and looking whether one is as it was. */
final class Networks {
    /** No two capacities are the same, and both 0 and 30 are among them. */
    static final int[][] MIXED = {
        {0, 0, 30, 1, 29, 2}, {0, 0, 28, 3, 27, 4}, {30, 28, 0, 26, 5, 25},
        {1, 3, 26, 0, 6, 24}, {29, 27, 5, 6, 0, 7}, {2, 4, 25, 24, 7, 0}
    };
    private static final int[] CHAIN = {10, 3, 20, 5, 7};

    private Networks() {
    }

    /** A new object with the capacities of rows {a, b, c}. */
    static CutFinder of(int[]... rows) {
        CutFinder finder = new CutFinder();
        for (int[] row : rows) {
            Checks.due("set" + Arrays.toString(row), finder.set(row[0], row[1], row[2]), true);
        }
        return finder;
    }

    /** A new object with the capacities of a table of places by places: 15 calls. */
    static CutFinder fromTable(int[][] table) {
        CutFinder finder = new CutFinder();
        for (int a = 0; a < Checks.PLACES; a++) {
            for (int b = a + 1; b < Checks.PLACES; b++) {
                finder.set(a, b, table[a][b]);
            }
        }
        return finder;
    }

    static CutFinder mixed() {
        return fromTable(MIXED);
    }

    /** Two pairs joined firmly inside, 0-1 by 10 and 2-3 by 20, a thin 1-2 by 3; 4 hangs on 3 by 5, 5 on 4 by 7. */
    static CutFinder path() {
        CutFinder finder = new CutFinder();
        for (int a = 0; a < CHAIN.length; a++) {
            finder.set(a, a + 1, CHAIN[a]);
        }
        return finder;
    }

    /** The same capacity between every two places. */
    static CutFinder even(int c) {
        return parts(1, c, c);
    }

    /** Every capacity 30, so that a side of k places costs 30 * k * (6 - k), the least of them 150. */
    static CutFinder full() {
        return even(30);
    }

    /** One capacity between places on the same side, another one across. */
    static CutFinder parts(int side, int inside, int across) {
        CutFinder finder = new CutFinder();
        for (int a = 0; a < Checks.PLACES; a++) {
            for (int b = a + 1; b < Checks.PLACES; b++) {
                boolean split = (side >> a & 1) != (side >> b & 1);
                finder.set(a, b, split ? across : inside);
            }
        }
        return finder;
    }

    /** New objects, from one where every side is a cheapest one to one where only {0, 1, 2} and the others are. */
    static CutFinder[] several() {
        return new CutFinder[] {new CutFinder(), full(), parts(7, 30, 1), mixed()};
    }

    /** Tables of capacities: all 0, all 30, a row of places joined by 30, so that each is a bridge, and MIXED. */
    static int[][][] tables() {
        int[][] all = new int[Checks.PLACES][Checks.PLACES];
        int[][] row = new int[Checks.PLACES][Checks.PLACES];
        for (int a = 0; a < Checks.PLACES; a++) {
            for (int b = 0; b < Checks.PLACES; b++) {
                all[a][b] = a == b ? 0 : 30;
                row[a][b] = Math.abs(a - b) == 1 ? 30 : 0;
            }
        }
        return new int[][][] {new int[Checks.PLACES][Checks.PLACES], all, row, MIXED};
    }

    static void isPath(CutFinder finder) {
        int[][] table = new int[Checks.PLACES][Checks.PLACES];
        for (int a = 0; a < CHAIN.length; a++) {
            table[a][a + 1] = CHAIN[a];
            table[a + 1][a] = CHAIN[a];
        }
        isTable(finder, table);
    }

    /** 30 calls. */
    static void isTable(CutFinder finder, int[][] want) {
        for (int a = 0; a < Checks.PLACES; a++) {
            for (int b = 0; b < Checks.PLACES; b++) {
                if (a != b) {
                    Checks.due("state: capacity(" + a + ", " + b + ")", finder.capacity(a, b), want[a][b]);
                }
            }
        }
    }

    static int[][] tableWith(int[][] table, int a, int b, int c) {
        int[][] changed = new int[Checks.PLACES][];
        for (int i = 0; i < Checks.PLACES; i++) {
            changed[i] = table[i].clone();
        }
        changed[a][b] = c;
        changed[b][a] = c;
        return changed;
    }
}
