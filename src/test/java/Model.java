/** A network with no limits on its numbers, which the checkers of the tests work on. */
final class Model {
    static final int NODES = 8;

    final int[] from = new int[20];
    final int[] to = new int[20];
    final int[] capacity = new int[20];
    final int[] cost = new int[20];
    final int[] supply = new int[NODES];
    int count;

    Model copy() {
        Model copy = new Model();
        System.arraycopy(from, 0, copy.from, 0, count);
        System.arraycopy(to, 0, copy.to, 0, count);
        System.arraycopy(capacity, 0, copy.capacity, 0, count);
        System.arraycopy(cost, 0, copy.cost, 0, count);
        System.arraycopy(supply, 0, copy.supply, 0, NODES);
        copy.count = count;
        return copy;
    }

    void add(int tail, int head, int most, int price) {
        from[count] = tail;
        to[count] = head;
        capacity[count] = most;
        cost[count] = price;
        count++;
    }

    boolean isUnbounded(int a) {
        return capacity[a] == -1;
    }

    Model withSupplies(int u, int v, int units) {
        Model changed = copy();
        changed.supply[u] += units;
        changed.supply[v] -= units;
        return changed;
    }

    Model withCost(int a, int price) {
        Model changed = copy();
        changed.cost[a] = price;
        return changed;
    }

    /** The network in which arc a has exactly that many units: without it, its ends paid off. */
    Model withFixed(int a, int units) {
        Model changed = withSupplies(to[a], from[a], units);
        changed.capacity[a] = 0;
        return changed;
    }

    /** More than any arc has in a flow that does not circle on unbounded arcs alone. */
    int beyond() {
        int units = 1;
        for (int v = 0; v < NODES; v++) {
            units += Math.max(0, supply[v]);
        }
        for (int a = 0; a < count; a++) {
            units += Math.max(0, capacity[a]);
        }
        return units;
    }

    boolean hasUnboundedCircleBelowZero() {
        long[][] way = new long[NODES][NODES];
        for (long[] row : way) {
            java.util.Arrays.fill(row, Integer.MAX_VALUE);
        }
        for (int a = 0; a < count; a++) {
            if (isUnbounded(a)) {
                way[from[a]][to[a]] = Math.min(way[from[a]][to[a]], cost[a]);
            }
        }
        for (int m = 0; m < NODES; m++) {
            for (int u = 0; u < NODES; u++) {
                for (int v = 0; v < NODES; v++) {
                    if (way[u][m] != Integer.MAX_VALUE && way[m][v] != Integer.MAX_VALUE) {
                        way[u][v] = Math.min(way[u][v], way[u][m] + way[m][v]);
                    }
                }
            }
        }
        for (int v = 0; v < NODES; v++) {
            if (way[v][v] < 0) {
                return true;
            }
        }
        return false;
    }

    /** What promise 10 adds up for a set of nodes; -1 for a set that is not meant. */
    int cutOf(int set) {
        int sum = 0;
        for (int v = 0; v < NODES; v++) {
            boolean in = (set >> v & 1) == 1;
            sum += in ? Math.max(0, -supply[v]) : Math.max(0, supply[v]);
        }
        for (int a = 0; a < count; a++) {
            if ((set >> from[a] & 1) == 1 && (set >> to[a] & 1) == 0) {
                if (isUnbounded(a)) {
                    return -1;
                }
                sum += capacity[a];
            }
        }
        return sum;
    }

    int leastCut() {
        int least = Integer.MAX_VALUE;
        for (int set = 0; set < 1 << NODES; set++) {
            int cut = cutOf(set);
            if (cut >= 0) {
                least = Math.min(least, cut);
            }
        }
        return least;
    }

    int bottleneck() {
        int least = leastCut();
        int best = (1 << NODES) - 1;
        int size = NODES + 1;
        for (int set = 0; set < 1 << NODES; set++) {
            if (cutOf(set) == least && Integer.bitCount(set) < size) {
                best = set;
                size = Integer.bitCount(set);
            }
        }
        return best;
    }
}
