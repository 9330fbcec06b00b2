/** Every promise on many networks, against the answers of FlowModel. No object is asked more than 512 times. */
final class FlowTest {
    private static final int PLACES = 6;
    private static final int NETWORKS = 120;

    private static long state = 20261115;

    private FlowTest() {
    }

    public static void main(String[] args) {
        for (int number = 0; number < NETWORKS; number++) {
            int[][] table = drawTable(number);
            sides(table);
            pairs(table);
            counts(table);
            tight(table);
            if (number % 10 == 0) {
                forced(table);
            }
        }
        Checks.end();
    }

    /** The same numbers in every run. */
    private static int draw(int bound) {
        state = state * 6364136223846793005L + 1442695040888963407L;
        return (int) ((state >>> 33) % bound);
    }

    /** Small capacities bring many equal cuts, and zeros bring networks in parts. */
    private static int[][] drawTable(int number) {
        int[] tops = {1, 2, 3, 30, 30};
        int top = tops[number % tops.length];
        int zerosInTen = number % 8;
        int[][] table = new int[PLACES][PLACES];
        for (int a = 0; a < PLACES; a++) {
            for (int b = a + 1; b < PLACES; b++) {
                int c = draw(10) < zerosInTen ? 0 : draw(top + 1);
                table[a][b] = c;
                table[b][a] = c;
            }
        }
        return table;
    }

    private static void sides(int[][] table) {
        CutFinder finder = Networks.fromTable(table);
        FlowModel model = new FlowModel(table);
        for (int side = 1; side <= 62; side++) {
            Checks.due("cost(" + side + ")", finder.cost(side), model.cost(side));
        }
        Checks.due("least()", finder.least(), model.least());
        Checks.due("leastSide()", finder.leastSide(), model.leastSide());
    }

    private static void pairs(int[][] table) {
        CutFinder finder = Networks.fromTable(table);
        FlowModel model = new FlowModel(table);
        for (int a = 0; a < PLACES; a++) {
            for (int b = 0; b < PLACES; b++) {
                if (a != b) {
                    String words = "(" + a + ", " + b + ")";
                    Checks.due("between" + words, finder.between(a, b), model.between(a, b));
                    Checks.due("core" + words, finder.core(a, b), model.core(a, b));
                    Checks.due("reach" + words, finder.reach(a, b), model.reach(a, b));
                    Checks.due("loss" + words, finder.loss(a, b), model.loss(a, b));
                    Checks.due("capacity" + words, finder.capacity(a, b), table[a][b]);
                }
            }
        }
    }

    private static void counts(int[][] table) {
        CutFinder finder = Networks.fromTable(table);
        FlowModel model = new FlowModel(table);
        for (int a = 0; a < PLACES; a++) {
            for (int b = 0; b < PLACES; b++) {
                // The costs that occur, and their neighbours, are where the answers change.
                int c = (a == b ? model.least() : model.between(a, b)) + draw(3) - 1;
                Checks.due("group(" + a + ", " + c + ")", finder.group(a, c), model.group(a, c));
                Checks.due("pairsAtLeast(" + c + ")", finder.pairsAtLeast(c), model.pairsAtLeast(c));
            }
        }
    }

    private static void tight(int[][] table) {
        FlowModel model = new FlowModel(table);
        for (int a = 0; a < PLACES; a++) {
            CutFinder finder = Networks.fromTable(table);
            for (int b = 0; b < PLACES; b++) {
                for (int pair = 0; pair < PLACES * PLACES; pair++) {
                    int x = pair / PLACES;
                    int y = pair % PLACES;
                    boolean want = a != b && x != y && model.tight(a, b, x, y);
                    Checks.due("tight(" + a + ", " + b + ", " + x + ", " + y + ")", finder.tight(a, b, x, y), want);
                }
            }
        }
    }

    private static void forced(int[][] table) {
        FlowModel model = new FlowModel(table);
        for (int in = -2; in <= 66; in++) {
            CutFinder finder = Networks.fromTable(table);
            for (int out = -2; out <= 66; out++) {
                Checks.due("forced(" + in + ", " + out + ")", finder.forced(in, out), model.forced(in, out));
            }
        }
    }
}
