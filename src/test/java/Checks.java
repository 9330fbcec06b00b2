/** What the tests share: counting wrong answers, and knowing a place and a pair. */
final class Checks {
    static final int PLACES = 6;
    static final int BAD = -1;
    static final int MIN = Integer.MIN_VALUE;
    static final int MAX = Integer.MAX_VALUE;
    /** The edges of every range in the document, and numbers that a shift or a mask would take for right ones. */
    static final int[] ODD_NUMBERS = {
        MIN, MIN + 1, -64, -63, -32, -6, -2, -1, 0, 1, 2, 3, 4, 5, 6, 7, 29, 30, 31, 32,
        33, 37, 61, 62, 63, 64, 65, 127, 256, 65536, 1 << 30, MAX
    };

    private static int wrong = 0;
    private static int seen = 0;

    private Checks() {
    }

    static void due(String call, long got, long want) {
        seen++;
        if (got != want) {
            wrong++;
            System.out.println("  " + call + " answered " + got + ", due is " + want);
        }
    }

    static void due(String call, boolean got, boolean want) {
        due(call, got ? 1 : 0, want ? 1 : 0);
    }

    /** One sentence of the document, or one case of it, as a test of its own: the others run whatever it does. */
    static void sentence(String words, Runnable test) {
        int wrongBefore = wrong;
        int seenBefore = seen;
        try {
            test.run();
        } catch (RuntimeException thrown) {
            due("a call that threw " + thrown, 1, 0);
        }
        if (seen == seenBefore) {
            due("looked at nothing", 1, 0);
        }
        if (wrong != wrongBefore) {
            System.out.println("BROKEN: " + words);
        }
    }

    static void end() {
        System.out.println(seen + " answers looked at, " + wrong + " not as due");
        if (wrong != 0 || seen == 0) {
            System.exit(1);
        }
    }

    static boolean isPlace(int a) {
        return a >= 0 && a <= 5;
    }

    static boolean isPair(int a, int b) {
        return isPlace(a) && isPlace(b) && a != b;
    }
}
