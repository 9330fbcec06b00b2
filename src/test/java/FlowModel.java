/** The same questions answered another way: by greatest flows, not by going through the sides. */
final class FlowModel {
    private static final int PLACES = 6;
    private static final int SOURCE = 6;
    private static final int SINK = 7;
    private static final int NODES = 8;
    private static final int ENDLESS = 1_000_000;

    private final int[][] table;

    FlowModel(int[][] table) {
        this.table = table;
    }

    /** This network with the capacity between a and b changed. */
    FlowModel with(int a, int b, int c) {
        return new FlowModel(Networks.tableWith(table, a, b, c));
    }

    int cost(int side) {
        int sum = 0;
        for (int a = 0; a < PLACES; a++) {
            for (int b = 0; b < PLACES; b++) {
                if ((side & (1 << a)) != 0 && (side & (1 << b)) == 0) {
                    sum += table[a][b];
                }
            }
        }
        return sum;
    }

    int between(int a, int b) {
        return flow(restAtFirst(1 << a, 1 << b));
    }

    /** What can still be come to from a, once the flow is greatest, is the smallest cheapest side. */
    int core(int a, int b) {
        int[][] rest = restAtFirst(1 << a, 1 << b);
        flow(rest);
        boolean[] met = comeTo(rest, SOURCE, null);
        int places = 0;
        for (int i = 0; i < PLACES; i++) {
            places |= met[i] ? 1 << i : 0;
        }
        return places;
    }

    /** The network is the same both ways, so the greatest cheapest side is what b's smallest one leaves. */
    int reach(int a, int b) {
        return 63 & ~core(b, a);
    }

    int least() {
        int least = between(0, 1);
        for (int b = 2; b < PLACES; b++) {
            least = Math.min(least, between(0, b));
        }
        return least;
    }

    int leastSide() {
        int side = 1;
        while (cost(side) != least()) {
            side += 2;
        }
        return side;
    }

    int forced(int in, int out) {
        if (in < 0 || in > 62 || out < 0 || out > 62 || (in & out) != 0) {
            return -1;
        }
        int least = ENDLESS;
        for (int a = 0; a < PLACES; a++) {
            for (int b = 0; b < PLACES; b++) {
                int source = in == 0 ? 1 << a : in;
                int sink = out == 0 ? 1 << b : out;
                if ((source & sink) == 0) {
                    least = Math.min(least, flow(restAtFirst(source, sink)));
                }
            }
        }
        return least;
    }

    int group(int a, int c) {
        int places = 0;
        for (int b = 0; b < PLACES; b++) {
            places |= a == b || between(a, b) >= c ? 1 << b : 0;
        }
        return places;
    }

    int pairsAtLeast(int c) {
        int ordered = 0;
        for (int a = 0; a < PLACES; a++) {
            ordered += Integer.bitCount(group(a, c)) - 1;
        }
        return ordered / 2;
    }

    int loss(int a, int b) {
        return least() - with(a, b, 0).least();
    }

    boolean tight(int a, int b, int x, int y) {
        return with(x, y, table[x][y] + 1).between(a, b) > between(a, b);
    }

    private int[][] restAtFirst(int in, int out) {
        int[][] rest = new int[NODES][NODES];
        for (int a = 0; a < PLACES; a++) {
            for (int b = 0; b < PLACES; b++) {
                rest[a][b] = table[a][b];
            }
            rest[SOURCE][a] = (in & (1 << a)) != 0 ? ENDLESS : 0;
            rest[a][SINK] = (out & (1 << a)) != 0 ? ENDLESS : 0;
        }
        return rest;
    }

    private static int flow(int[][] rest) {
        int sum = 0;
        int[] from = new int[NODES];
        while (comeTo(rest, SOURCE, from)[SINK]) {
            int more = ENDLESS;
            for (int node = SINK; node != SOURCE; node = from[node]) {
                more = Math.min(more, rest[from[node]][node]);
            }
            for (int node = SINK; node != SOURCE; node = from[node]) {
                rest[from[node]][node] -= more;
                rest[node][from[node]] += more;
            }
            sum += more;
        }
        return sum;
    }

    private static boolean[] comeTo(int[][] rest, int start, int[] from) {
        boolean[] met = new boolean[NODES];
        int[] queue = new int[NODES];
        int end = 0;
        queue[end++] = start;
        met[start] = true;
        for (int next = 0; next < end; next++) {
            for (int node = 0; node < NODES; node++) {
                if (!met[node] && rest[queue[next]][node] > 0) {
                    met[node] = true;
                    queue[end++] = node;
                    if (from != null) {
                        from[node] = queue[next];
                    }
                }
            }
        }
        return met;
    }
}
