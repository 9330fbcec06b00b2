import java.util.Arrays;

/** All calls mixed, right and wrong ones, while the capacities change: every call of an object's 512, by FlowModel. */
final class LongRunTest {
    private static final int RUNS = 150;
    private static final int LAST_CALL = 512;
    private static final int SET = 0;
    private static final int SETS_FIRST = 20;
    private static final String[] NAMES = {
        "set", "capacity", "cost", "least", "leastSide", "between", "core", "reach", "forced", "pairsAtLeast",
        "group", "loss", "tight"
    };

    private static long state = 20261116;

    private LongRunTest() {
    }

    /** Which call is asked, as its place in NAMES. */
    private interface Kinds {
        int at(int call);
    }

    public static void main(String[] args) {
        for (int run = 0; run < RUNS; run++) {
            int number = run;
            // Some runs are mostly sets, some nearly none, so that an answer is asked again with and without a change.
            Kinds mixed = call -> draw(10) < number % 8 ? SET : draw(NAMES.length);
            Checks.sentence("What it is: every call of the first 512, run " + run, () -> wholeLife(number, mixed));
        }
        for (int kind = 0; kind < NAMES.length; kind++) {
            int number = RUNS + kind;
            int only = kind;
            Kinds alone = call -> call <= SETS_FIRST ? SET : only;
            Checks.sentence("What it is: 512 calls, nearly all " + NAMES[kind], () -> wholeLife(number, alone));
        }
        Checks.end();
    }

    private static void wholeLife(int run, Kinds kinds) {
        CutFinder finder = new CutFinder();
        int[][] table = new int[Checks.PLACES][Checks.PLACES];
        for (int call = 1; call <= LAST_CALL; call++) {
            int kind = kinds.at(call);
            int[] n = kind == SET ? drawSet(run) : drawNumbers(kind);
            String words = "run " + run + ", call " + call + ": " + NAMES[kind] + " of " + Arrays.toString(n);
            long want = due(table, kind, n);
            Checks.due(words, answer(finder, kind, n), want);
            if (kind == SET && want == 1) {
                table = Networks.tableWith(table, n[0], n[1], n[2]);
            }
        }
    }

    /** The same numbers in every run of the test. */
    private static int draw(int bound) {
        state = state * 6364136223846793005L + 1442695040888963407L;
        return (int) ((state >>> 33) % bound);
    }

    private static int drawOdd() {
        return Checks.ODD_NUMBERS[draw(Checks.ODD_NUMBERS.length)];
    }

    /** Now and then a number that may be wrong. */
    private static int drawBelow(int bound) {
        return draw(16) == 0 ? drawOdd() : draw(bound);
    }

    private static int[] drawSet(int run) {
        // Small capacities bring many equal cuts.
        int[] tops = {1, 2, 4, 30};
        int c = drawBelow(tops[run % tops.length] + 1);
        return new int[] {drawBelow(Checks.PLACES), drawBelow(Checks.PLACES), c, 0};
    }

    private static int[] drawNumbers(int kind) {
        int[] bounds = {6, 6, 6, 6};
        switch (NAMES[kind]) {
            case "cost": bounds[0] = 64; break;
            case "forced": bounds[0] = 64; bounds[1] = 64; break;
            case "pairsAtLeast": bounds[0] = draw(2) == 0 ? 8 : 80; break;
            case "group": bounds[1] = draw(2) == 0 ? 8 : 80; break;
            default: break;
        }
        int[] n = new int[4];
        for (int i = 0; i < n.length; i++) {
            n[i] = drawBelow(bounds[i]);
        }
        // Two sets drawn alone nearly always share a place.
        if (NAMES[kind].equals("forced") && draw(4) != 0) {
            n[1] &= ~n[0];
        }
        return n;
    }

    private static long answer(CutFinder finder, int kind, int[] n) {
        switch (NAMES[kind]) {
            case "set": return finder.set(n[0], n[1], n[2]) ? 1 : 0;
            case "capacity": return finder.capacity(n[0], n[1]);
            case "cost": return finder.cost(n[0]);
            case "least": return finder.least();
            case "leastSide": return finder.leastSide();
            case "between": return finder.between(n[0], n[1]);
            case "core": return finder.core(n[0], n[1]);
            case "reach": return finder.reach(n[0], n[1]);
            case "forced": return finder.forced(n[0], n[1]);
            case "pairsAtLeast": return finder.pairsAtLeast(n[0]);
            case "group": return finder.group(n[0], n[1]);
            case "loss": return finder.loss(n[0], n[1]);
            default: return finder.tight(n[0], n[1], n[2], n[3]) ? 1 : 0;
        }
    }

    private static long due(int[][] table, int kind, int[] n) {
        FlowModel model = new FlowModel(table);
        boolean pair = Checks.isPair(n[0], n[1]);
        switch (NAMES[kind]) {
            case "set": return pair && n[2] >= 0 && n[2] <= 30 ? 1 : 0;
            case "capacity": return pair ? table[n[0]][n[1]] : Checks.BAD;
            case "cost": return n[0] >= 1 && n[0] <= 62 ? model.cost(n[0]) : Checks.BAD;
            case "least": return model.least();
            case "leastSide": return model.leastSide();
            case "between": return pair ? model.between(n[0], n[1]) : Checks.BAD;
            case "core": return pair ? model.core(n[0], n[1]) : 0;
            case "reach": return pair ? model.reach(n[0], n[1]) : 0;
            case "forced": return model.forced(n[0], n[1]);
            case "pairsAtLeast": return model.pairsAtLeast(n[0]);
            case "group": return Checks.isPlace(n[0]) ? model.group(n[0], n[1]) : 0;
            case "loss": return pair ? model.loss(n[0], n[1]) : Checks.BAD;
            default: return pair && Checks.isPair(n[2], n[3]) && model.tight(n[0], n[1], n[2], n[3]) ? 1 : 0;
        }
    }
}
