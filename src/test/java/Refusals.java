/** What the sentences "when a = b or one is not 0 .. 5" have in common, for every call that takes a pair of places. */
final class Refusals {
    /** From one below the least place down, with numbers that wrap into 0 .. 5 as a shift, a product or a narrow type. */
    static final int[] TOO_SMALL = {-1, -2, -6, -27, -32, -64, -256, -65536, Checks.MIN, Checks.MIN + 1, Checks.MIN + 5};
    /** From one above the greatest place up, with numbers that wrap likewise. */
    static final int[] TOO_LARGE = {6, 7, 11, 12, 32, 33, 37, 64, 256, 261, 65536, 65541, 1 << 30, Checks.MAX};

    /** A call that takes two places. */
    interface PairCall {
        int answer(CutFinder finder, int a, int b);
    }

    private Refusals() {
    }

    /** Each case of the sentence as a test of its own; the network's every capacity is 30, so a right pair isn't refused. */
    static void ofPairs(String promise, PairCall call, int refusal) {
        Checks.sentence(promise + ": not refused when a and b are two of 0 .. 5", () -> rightPairs(call, refusal));
        Checks.sentence(promise + ": a = b", () -> equalPlaces(call, refusal));
        Checks.sentence(promise + ": a is less than 0", () -> firstWrong(call, TOO_SMALL, refusal));
        Checks.sentence(promise + ": a is more than 5", () -> firstWrong(call, TOO_LARGE, refusal));
        Checks.sentence(promise + ": b is less than 0", () -> secondWrong(call, TOO_SMALL, refusal));
        Checks.sentence(promise + ": b is more than 5", () -> secondWrong(call, TOO_LARGE, refusal));
        Checks.sentence(promise + ": neither is 0 .. 5", () -> bothWrong(call, refusal));
    }

    private static void rightPairs(PairCall call, int refusal) {
        CutFinder finder = Networks.full();
        for (int a = 0; a <= 5; a++) {
            for (int b = 0; b <= 5; b++) {
                if (a != b) {
                    Checks.due(a + ", " + b + " is refused", call.answer(finder, a, b) == refusal, false);
                }
            }
        }
    }

    private static void equalPlaces(PairCall call, int refusal) {
        for (CutFinder finder : Networks.several()) {
            for (int a = 0; a <= 5; a++) {
                Checks.due(a + ", " + a, call.answer(finder, a, a), refusal);
            }
        }
    }

    private static void firstWrong(PairCall call, int[] wrongPlaces, int refusal) {
        for (CutFinder finder : Networks.several()) {
            for (int wrong : wrongPlaces) {
                for (int b = 0; b <= 5; b++) {
                    Checks.due(wrong + " with " + b, call.answer(finder, wrong, b), refusal);
                }
            }
        }
    }

    private static void secondWrong(PairCall call, int[] wrongPlaces, int refusal) {
        firstWrong((finder, wrong, a) -> call.answer(finder, a, wrong), wrongPlaces, refusal);
    }

    private static void bothWrong(PairCall call, int refusal) {
        CutFinder finder = Networks.full();
        for (int small : TOO_SMALL) {
            for (int large : TOO_LARGE) {
                Checks.due(small + ", " + large, call.answer(finder, small, large), refusal);
                Checks.due(large + ", " + small, call.answer(finder, large, small), refusal);
            }
        }
        CutFinder other = Networks.full();
        for (int i = 1; i < TOO_SMALL.length; i++) {
            Checks.due("twice " + TOO_SMALL[i], call.answer(other, TOO_SMALL[i], TOO_SMALL[i]), refusal);
            Checks.due("too small both", call.answer(other, TOO_SMALL[i - 1], TOO_SMALL[i]), refusal);
        }
        for (int i = 1; i < TOO_LARGE.length; i++) {
            Checks.due("twice " + TOO_LARGE[i], call.answer(other, TOO_LARGE[i], TOO_LARGE[i]), refusal);
            Checks.due("too large both", call.answer(other, TOO_LARGE[i - 1], TOO_LARGE[i]), refusal);
        }
    }
}
