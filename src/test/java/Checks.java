import java.util.Arrays;

/** What the tests share: counting wrong answers, and making networks. */
final class Checks {
    static final int PLACES = 6;
    /** The edges of every range in the document, and numbers that a shift or a mask would take for right ones. */
    static final int[] ODD_NUMBERS = {
        Integer.MIN_VALUE, Integer.MIN_VALUE + 1, -64, -63, -32, -6, -2, -1, 0, 1, 2, 3, 4, 5, 6, 7, 29, 30, 31, 32,
        33, 37, 61, 62, 63, 64, 65, 127, 256, 65536, 1 << 30, Integer.MAX_VALUE
    };

    private static int wrong = 0;
    private static int seen = 0;

    private Checks() {
    }

    static void due(String call, long got, long want) {
        seen++;
        if (got != want) {
            wrong++;
            System.out.println(call + " answered " + got + ", due is " + want);
        }
    }

    static void due(String call, boolean got, boolean want) {
        due(call, got ? 1 : 0, want ? 1 : 0);
    }

    static void end() {
        System.out.println(seen + " answers looked at, " + wrong + " not as due");
        if (wrong != 0 || seen == 0) {
            System.exit(1);
        }
    }

    /** A new object with the capacities of rows {a, b, c}. */
    static CutFinder network(int[]... rows) {
        CutFinder finder = new CutFinder();
        for (int[] row : rows) {
            due("set" + Arrays.toString(row), finder.set(row[0], row[1], row[2]), true);
        }
        return finder;
    }

    /** A new object with the capacities of a table of places by places: 15 calls. */
    static CutFinder fromTable(int[][] table) {
        CutFinder finder = new CutFinder();
        for (int a = 0; a < PLACES; a++) {
            for (int b = a + 1; b < PLACES; b++) {
                finder.set(a, b, table[a][b]);
            }
        }
        return finder;
    }

    static boolean isPlace(int a) {
        return a >= 0 && a <= 5;
    }

    static boolean isPair(int a, int b) {
        return isPlace(a) && isPlace(b) && a != b;
    }
}
