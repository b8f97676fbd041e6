/** A network that changes, and what the cheapest flows in it are. */
public final class FlowLedger {
    public static final int BAD = -1000000;
    public static final int FULL = -1000001;
    public static final int IMPOSSIBLE = -1000002;
    public static final int ENDLESS = -1000003;
    public static final int NONE = -1000004;

    private static final int SOLVED = 0;
    private static final int UNBOUNDED = -1;
    private static final int NODES = 8;
    private static final int MOST_ARCS = 20;
    private static final int MOST_SUPPLY = 30;
    private static final int MOST_CAPACITY = 30;
    private static final int MOST_COST = 20;
    private static final int MOST_SLACK = 40;

    /**
     * No more units than this ever wait to be sent, and a flow that does not circle on unbounded
     * arcs alone gives no arc more: each unit uses up a supply or a bounded arc's capacity.
     */
    private static final int MOST_UNITS = NODES * MOST_SUPPLY + MOST_ARCS * MOST_CAPACITY;

    /** Scales of the costs; with FINE one unit of cost outweighs whatever an arc can have. */
    private static final int FREE = 0;
    private static final int OWN = 1;
    private static final int FINE = MOST_UNITS + 1;

    private final Router router;
    private final Network network;

    public FlowLedger() {
        router = new Router();
        network = router.network;
    }

    public int add(int from, int to, int capacity, int cost) {
        if (!isNode(from) || !isNode(to) || from == to || !isArcData(capacity, cost)) {
            return BAD;
        }
        if (network.count >= MOST_ARCS) {
            return FULL;
        }
        int a = network.count;
        network.from[a] = from;
        network.to[a] = to;
        network.capacity[a] = capacity;
        network.cost[a] = cost;
        network.count++;
        return a;
    }

    public boolean change(int a, int capacity, int cost) {
        if (!isArc(a) || !isArcData(capacity, cost)) {
            return false;
        }
        network.capacity[a] = capacity;
        network.cost[a] = cost;
        return true;
    }

    public boolean supply(int node, int supply) {
        if (!isNode(node) || supply < -MOST_SUPPLY || supply > MOST_SUPPLY) {
            return false;
        }
        network.supply[node] = supply;
        return true;
    }

    public void clear() {
        network.count = 0;
        for (int v = 0; v < NODES; v++) {
            network.supply[v] = 0;
        }
    }

    public int arcs() {
        return network.count;
    }

    /** If the network is solved, the router then holds a cheapest flow. */
    public int state() {
        router.lay(OWN);
        if (router.route()) {
            return router.isBalanced() ? SOLVED : IMPOSSIBLE;
        }
        // Impossible goes before endless, so ask whether there is a flow at all, whatever it costs.
        router.lay(FREE);
        router.route();
        return router.isBalanced() ? ENDLESS : IMPOSSIBLE;
    }

    public int cost() {
        int state = state();
        return state == SOLVED ? router.costOfFlow() : state;
    }

    public int amount() {
        router.lay(FREE);
        router.route();
        return network.totalSupply() - router.totalExcess();
    }

    public int bottleneck() {
        router.lay(FREE);
        router.route();
        return router.nodesBehindExcess();
    }

    public int marginal(int u, int v) {
        if (!isNode(u) || !isNode(v)) {
            return BAD;
        }
        int state = state();
        if (state != SOLVED) {
            return state;
        }
        return router.canReach(u, v, Router.NO_ARC) ? router.distanceTo(v) : NONE;
    }

    public int least(int a) {
        if (!isArc(a)) {
            return BAD;
        }
        int state = state();
        if (state != SOLVED) {
            return state;
        }
        // Dearer by less than any real difference in cost: only ties are broken against the arc.
        routeTilted(a, 1);
        return router.flowOf(a);
    }

    /** If the answer is a number, the router then holds a cheapest flow that has it. */
    public int most(int a) {
        if (!isArc(a)) {
            return BAD;
        }
        int state = state();
        if (state != SOLVED) {
            return state;
        }
        // Cheaper by less than any real difference in cost: only ties are broken for the arc, and
        // unbounded arcs lead round below 0 only if they led round at 0 before, this arc with them.
        return routeTilted(a, -1) ? router.flowOf(a) : NONE;
    }

    public int slack(int a) {
        int most = most(a);
        if (most == NONE) {
            return 0;
        }
        if (most < 0) {
            return most;
        }
        if (most == network.capacity[a]) {
            return MOST_SLACK;
        }
        // The flow that stands now has the most there can be on the arc, so one unit more of it
        // has to come round from its end to its start at a loss: that loss is the slack.
        router.lay(OWN);
        if (!router.canReach(network.to[a], network.from[a], a)) {
            return MOST_SLACK;
        }
        int loss = network.cost[a] + router.distanceTo(network.from[a]);
        return Math.min(MOST_SLACK, loss);
    }

    private static boolean isNode(int node) {
        return node >= 0 && node < NODES;
    }

    private static boolean isArcData(int capacity, int cost) {
        return capacity >= UNBOUNDED && capacity <= MOST_CAPACITY
            && cost >= -MOST_COST && cost <= MOST_COST;
    }

    private static int sumAboveZero(int[] numbers) {
        int sum = 0;
        for (int number : numbers) {
            sum += Math.max(0, number);
        }
        return sum;
    }

    private boolean isArc(int a) {
        return a >= 0 && a < network.count;
    }

    private boolean routeTilted(int a, int tilt) {
        router.lay(FINE);
        router.tilt(a, tilt);
        return router.route();
    }

    /** The network as it has been set; only the first count arcs are there. */
    private static final class Network {
        final int[] from = new int[MOST_ARCS];
        final int[] to = new int[MOST_ARCS];
        final int[] capacity = new int[MOST_ARCS];
        final int[] cost = new int[MOST_ARCS];
        final int[] supply = new int[NODES];
        int count;

        int totalSupply() {
            return sumAboveZero(supply);
        }
    }

    /**
     * Sends as much of the supplies to the demands as can be, at the least weight, along one
     * lightest path after the other. A LINK is a way on which units can go: link 2a is arc a
     * forwards, with the room that is left, and link 2a + 1 takes back what arc a has.
     */
    private static final class Router {
        static final int NO_ARC = -1;
        private static final int NO_NODE = -1;
        private static final int NO_LINK = -1;
        private static final int FAR = 1000000000;

        /** The room of an unbounded arc, which all that is ever sent does not use up. */
        private static final int ENOUGH = 2 * MOST_UNITS;

        /** Made here and not handed in: no constructor hands out a part of what it makes. */
        final Network network = new Network();
        private final int[] tail = new int[2 * MOST_ARCS];
        private final int[] head = new int[2 * MOST_ARCS];
        private final int[] weight = new int[2 * MOST_ARCS];
        private final int[] room = new int[2 * MOST_ARCS];
        private final int[] excess = new int[NODES];
        private final int[] distance = new int[NODES];
        private final int[] entry = new int[NODES];

        /** Lays the links with the arcs' costs times the scale as weights; their room stays. */
        void lay(int scale) {
            for (int a = 0; a < network.count; a++) {
                int link = 2 * a;
                tail[link] = network.from[a];
                head[link] = network.to[a];
                weight[link] = scale * network.cost[a];
                tail[link + 1] = head[link];
                head[link + 1] = tail[link];
                weight[link + 1] = -weight[link];
            }
        }

        void tilt(int a, int by) {
            weight[2 * a] += by;
            weight[2 * a + 1] -= by;
        }

        int flowOf(int a) {
            return room[2 * a + 1];
        }

        int distanceTo(int node) {
            return distance[node];
        }

        /** False, and nothing is routed, if unbounded arcs lead round at a weight below 0. */
        boolean route() {
            if (!levelUnboundedArcs()) {
                return false;
            }
            fillLightArcs();
            countExcess();
            boolean sent = true;
            for (int sends = 0; sent && sends < MOST_UNITS; sends++) {
                sent = sendOnce();
            }
            return true;
        }

        boolean isBalanced() {
            for (int v = 0; v < NODES; v++) {
                if (excess[v] != 0) {
                    return false;
                }
            }
            return true;
        }

        int totalExcess() {
            return sumAboveZero(excess);
        }

        int costOfFlow() {
            int total = 0;
            for (int a = 0; a < network.count; a++) {
                total += network.cost[a] * room[2 * a + 1];
            }
            return total;
        }

        /** The nodes that a unit which could not be sent can still get to, as the sum of 2^v. */
        int nodesBehindExcess() {
            startAtExcess();
            measure(NO_ARC);
            int nodes = 0;
            for (int v = 0; v < NODES; v++) {
                if (distance[v] < FAR) {
                    nodes |= 1 << v;
                }
            }
            return nodes;
        }

        /** Whether links lead from start to end without those of the barred arc. */
        boolean canReach(int start, int end, int barred) {
            for (int v = 0; v < NODES; v++) {
                setStart(v, v == start);
            }
            measure(barred);
            return distance[end] < FAR;
        }

        /** Gives the nodes such distances that no unbounded arc is a shortcut, if there are any. */
        private boolean levelUnboundedArcs() {
            for (int v = 0; v < NODES; v++) {
                distance[v] = 0;
            }
            boolean changed = true;
            for (int round = 0; changed && round < NODES; round++) {
                changed = false;
                for (int a = 0; a < network.count; a++) {
                    if (network.capacity[a] == UNBOUNDED && isShortcut(2 * a)) {
                        distance[head[2 * a]] = distance[tail[2 * a]] + weight[2 * a];
                        changed = true;
                    }
                }
            }
            return !changed;
        }

        private boolean isShortcut(int link) {
            return distance[tail[link]] + weight[link] < distance[head[link]];
        }

        /** With the shortcuts full, no links that have room lead round at a weight below 0. */
        private void fillLightArcs() {
            for (int a = 0; a < network.count; a++) {
                boolean bounded = network.capacity[a] != UNBOUNDED;
                int capacity = bounded ? network.capacity[a] : ENOUGH;
                int flow = bounded && isShortcut(2 * a) ? capacity : 0;
                room[2 * a] = capacity - flow;
                room[2 * a + 1] = flow;
            }
        }

        private void countExcess() {
            for (int v = 0; v < NODES; v++) {
                excess[v] = network.supply[v];
            }
            for (int a = 0; a < network.count; a++) {
                excess[network.from[a]] -= room[2 * a + 1];
                excess[network.to[a]] += room[2 * a + 1];
            }
        }

        /** False if no node that has too much can reach one that has too little. */
        private boolean sendOnce() {
            startAtExcess();
            measure(NO_ARC);
            int end = nearestShortNode();
            if (end == NO_NODE) {
                return false;
            }
            int units = -excess[end];
            int start = end;
            for (int step = 0; step < NODES && entry[start] != NO_LINK; step++) {
                units = Math.min(units, room[entry[start]]);
                start = tail[entry[start]];
            }
            units = Math.min(units, excess[start]);
            excess[start] -= units;
            excess[end] += units;
            sendAlongPath(end, units);
            return true;
        }

        private void sendAlongPath(int end, int units) {
            int node = end;
            for (int step = 0; step < NODES && entry[node] != NO_LINK; step++) {
                int link = entry[node];
                room[link] -= units;
                room[link ^ 1] += units;
                node = tail[link];
            }
        }

        private int nearestShortNode() {
            int nearest = NO_NODE;
            int least = FAR;
            for (int v = 0; v < NODES; v++) {
                if (excess[v] < 0 && distance[v] < least) {
                    nearest = v;
                    least = distance[v];
                }
            }
            return nearest;
        }

        private void startAtExcess() {
            for (int v = 0; v < NODES; v++) {
                setStart(v, excess[v] > 0);
            }
        }

        private void setStart(int node, boolean isStart) {
            distance[node] = isStart ? 0 : FAR;
            entry[node] = NO_LINK;
        }

        /** Least weights from the starts; the rounds suffice as no circle of links is below 0. */
        private void measure(int barred) {
            boolean changed = true;
            for (int round = 0; changed && round < NODES; round++) {
                changed = false;
                for (int link = 0; link < 2 * network.count; link++) {
                    boolean open = room[link] > 0 && link >> 1 != barred;
                    if (open && distance[tail[link]] < FAR && isShortcut(link)) {
                        distance[head[link]] = distance[tail[link]] + weight[link];
                        entry[head[link]] = link;
                        changed = true;
                    }
                }
            }
        }
    }
}
