/**
 * Answers for networks of any size in another way than the class does: it begins with any flow and
 * cancels circles that make it cheaper, and it asks each question by solving changed networks.
 */
final class Canceller {
    private static final int SOURCE = Model.NODES;
    private static final int SINK = Model.NODES + 1;
    private static final int POINTS = Model.NODES + 2;

    private final Model model;
    private final int[] start = new int[100];
    private final int[] end = new int[100];
    private final int[] room = new int[100];
    private final int[] price = new int[100];
    private int links;
    private final int[] flow = new int[20];

    private int state;
    private int cheapest;

    Canceller(Model model) {
        this.model = model;
        solve();
    }

    int state() {
        return state;
    }

    int cheapest() {
        return cheapest;
    }

    int marginal(int u, int v) {
        Canceller changed = new Canceller(model.withSupplies(u, v, 1));
        return changed.state == 0 ? changed.cheapest - cheapest : FlowLedger.NONE;
    }

    int leastOf(int a) {
        int units = flow[a];
        while (units > 0 && isCheapestWith(a, units - 1)) {
            units--;
        }
        return units;
    }

    int mostOf(int a) {
        int limit = model.isUnbounded(a) ? model.beyond() : model.capacity[a];
        if (model.isUnbounded(a) && isCheapestWith(a, limit)) {
            return FlowLedger.NONE;
        }
        int units = flow[a];
        while (units < limit && isCheapestWith(a, units + 1)) {
            units++;
        }
        return units;
    }

    int slackOf(int a) {
        int most = mostOf(a);
        int slack = 0;
        for (int k = 1; k <= 40 && most != FlowLedger.NONE; k++) {
            Canceller changed = new Canceller(model.withCost(a, model.cost[a] - k));
            if (changed.state == 0 && changed.cheapest == cheapest - k * most) {
                slack = k;
            }
        }
        return slack;
    }

    private boolean isCheapestWith(int a, int units) {
        Canceller fixed = new Canceller(model.withFixed(a, units));
        return fixed.state == 0 && fixed.cheapest + units * model.cost[a] == cheapest;
    }

    private void solve() {
        layLinks();
        if (!sendAll()) {
            state = FlowLedger.IMPOSSIBLE;
            return;
        }
        if (model.hasUnboundedCircleBelowZero()) {
            state = FlowLedger.ENDLESS;
            return;
        }
        while (cancelCircle()) {
            continue;
        }
        for (int a = 0; a < model.count; a++) {
            flow[a] = room[2 * a + 1];
            cheapest += flow[a] * model.cost[a];
        }
    }

    private void layLinks() {
        for (int a = 0; a < model.count; a++) {
            int most = model.isUnbounded(a) ? 1000000 : model.capacity[a];
            link(model.from[a], model.to[a], most, model.cost[a]);
        }
        for (int v = 0; v < Model.NODES; v++) {
            link(SOURCE, v, Math.max(0, model.supply[v]), 0);
            link(v, SINK, Math.max(0, -model.supply[v]), 0);
        }
    }

    private void link(int from, int to, int units, int cost) {
        start[links] = from;
        end[links] = to;
        room[links] = units;
        price[links++] = cost;
        start[links] = to;
        end[links] = from;
        room[links] = 0;
        price[links++] = -cost;
    }

    private boolean sendAll() {
        boolean[] seen = new boolean[POINTS];
        while (send(SOURCE, seen, 1000000) > 0) {
            seen = new boolean[POINTS];
        }
        for (int link = 2 * model.count; link < links; link += 2) {
            if (room[link] > 0) {
                return false;
            }
        }
        return true;
    }

    private int send(int point, boolean[] seen, int units) {
        if (point == SINK) {
            return units;
        }
        seen[point] = true;
        for (int link = 0; link < links; link++) {
            if (start[link] == point && room[link] > 0 && !seen[end[link]]) {
                int sent = send(end[link], seen, Math.min(units, room[link]));
                if (sent > 0) {
                    room[link] -= sent;
                    room[link ^ 1] += sent;
                    return sent;
                }
            }
        }
        return 0;
    }

    private boolean cancelCircle() {
        int[] distance = new int[Model.NODES];
        int[] entry = new int[Model.NODES];
        int changed = -1;
        java.util.Arrays.fill(entry, -1);
        for (int round = 0; round <= Model.NODES; round++) {
            changed = -1;
            for (int link = 0; link < 2 * model.count; link++) {
                int there = distance[start[link]] + price[link];
                if (room[link] > 0 && there < distance[end[link]]) {
                    distance[end[link]] = there;
                    entry[end[link]] = link;
                    changed = end[link];
                }
            }
        }
        if (changed == -1) {
            return false;
        }
        for (int step = 0; step < Model.NODES; step++) {
            changed = start[entry[changed]];
        }
        int units = Integer.MAX_VALUE;
        int point = changed;
        do {
            units = Math.min(units, room[entry[point]]);
            point = start[entry[point]];
        } while (point != changed);
        do {
            room[entry[point]] -= units;
            room[entry[point] ^ 1] += units;
            point = start[entry[point]];
        } while (point != changed);
        return true;
    }
}
