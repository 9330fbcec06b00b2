/** Every method on all combinations of odd numbers: what is out of range is answered as such, and nothing is changed. */
final class WrongInputTest {
    private static final int BAD = Checks.BAD;
    private static final int[][] TABLE = {
        {0, 4, 9, 0, 30, 2}, {4, 0, 7, 1, 0, 5}, {9, 7, 0, 12, 3, 0},
        {0, 1, 12, 0, 8, 6}, {30, 0, 3, 8, 0, 11}, {2, 5, 0, 6, 11, 0}
    };
    private static final FlowModel MODEL = new FlowModel(TABLE);

    private WrongInputTest() {
    }

    public static void main(String[] args) {
        for (int a : Checks.ODD_NUMBERS) {
            oneNumber(a);
            for (int b : Checks.ODD_NUMBERS) {
                twoNumbers(a, b);
                set(a, b);
                tight(a, b);
            }
        }
        Checks.end();
    }

    private static void oneNumber(int n) {
        CutFinder finder = Networks.fromTable(TABLE);
        Checks.due("cost(" + n + ")", finder.cost(n), n >= 1 && n <= 62 ? MODEL.cost(n) : BAD);
        Checks.due("pairsAtLeast(" + n + ")", finder.pairsAtLeast(n), MODEL.pairsAtLeast(n));
        Networks.isTable(finder, TABLE);
    }

    private static void twoNumbers(int a, int b) {
        CutFinder finder = Networks.fromTable(TABLE);
        boolean pair = Checks.isPair(a, b);
        String words = "(" + a + ", " + b + ")";
        Checks.due("capacity" + words, finder.capacity(a, b), pair ? TABLE[a][b] : BAD);
        Checks.due("between" + words, finder.between(a, b), pair ? MODEL.between(a, b) : BAD);
        Checks.due("core" + words, finder.core(a, b), pair ? MODEL.core(a, b) : 0);
        Checks.due("reach" + words, finder.reach(a, b), pair ? MODEL.reach(a, b) : 0);
        Checks.due("forced" + words, finder.forced(a, b), MODEL.forced(a, b));
        Checks.due("group" + words, finder.group(a, b), Checks.isPlace(a) ? MODEL.group(a, b) : 0);
        Checks.due("loss" + words, finder.loss(a, b), pair ? MODEL.loss(a, b) : BAD);
        Networks.isTable(finder, TABLE);
    }

    private static void set(int a, int b) {
        for (int c : Checks.ODD_NUMBERS) {
            CutFinder finder = Networks.fromTable(TABLE);
            boolean right = Checks.isPair(a, b) && c >= 0 && c <= 30;
            Checks.due("set(" + a + ", " + b + ", " + c + ")", finder.set(a, b, c), right);
            Networks.isTable(finder, right ? Networks.tableWith(TABLE, a, b, c) : TABLE);
        }
    }

    private static void tight(int a, int b) {
        for (int x : Checks.ODD_NUMBERS) {
            CutFinder finder = Networks.fromTable(TABLE);
            for (int y : Checks.ODD_NUMBERS) {
                boolean want = Checks.isPair(a, b) && Checks.isPair(x, y) && MODEL.tight(a, b, x, y);
                Checks.due("tight(" + a + ", " + b + ", " + x + ", " + y + ")", finder.tight(a, b, x, y), want);
            }
            Networks.isTable(finder, TABLE);
        }
    }
}
