/** Tries every flow of a very small network, to answer by the words of the document alone. */
final class Brute {
    private final Model model;
    /** More than an arc can have without circling; the flows that are tried go to twice as much. */
    private final int beyond;
    private final int[] flow = new int[20];
    private final int[] balance = new int[Model.NODES];
    private final int[] lastArc = new int[Model.NODES];
    private boolean partial;

    boolean possible;
    int cheapest;
    int greatestAmount;
    int[] least;
    int[] most;

    Brute(Model model) {
        this.model = model;
        beyond = model.beyond();
    }

    /** Fills possible, cheapest, least and most from all flows. */
    Brute flows() {
        possible = false;
        prepare(false);
        tryFrom(0);
        return this;
    }

    Brute partialFlows() {
        greatestAmount = 0;
        prepare(true);
        tryFrom(0);
        return this;
    }

    int state() {
        if (!possible) {
            return FlowLedger.IMPOSSIBLE;
        }
        return model.hasUnboundedCircleBelowZero() ? FlowLedger.ENDLESS : 0;
    }

    int mostOf(int a) {
        return model.isUnbounded(a) && most[a] >= beyond ? FlowLedger.NONE : most[a];
    }

    int slackOf(int a) {
        int slack = 0;
        for (int k = 1; k <= 40; k++) {
            Brute changed = new Brute(model.withCost(a, model.cost[a] - k)).flows();
            // Of the flows that are cheapest now, the one with the most on the arc costs least there.
            if (changed.state() == 0 && changed.cheapest == cheapest - k * most[a]) {
                slack = k;
            }
        }
        return slack;
    }

    int marginal(int u, int v) {
        Brute changed = new Brute(model.withSupplies(u, v, 1)).flows();
        return changed.possible ? changed.cheapest - cheapest : FlowLedger.NONE;
    }

    private void prepare(boolean isPartial) {
        partial = isPartial;
        java.util.Arrays.fill(lastArc, -1);
        for (int v = 0; v < Model.NODES; v++) {
            balance[v] = model.supply[v];
        }
        for (int a = 0; a < model.count; a++) {
            lastArc[model.from[a]] = a;
            lastArc[model.to[a]] = a;
        }
    }

    private void tryFrom(int a) {
        for (int v = 0; v < Model.NODES; v++) {
            if (lastArc[v] < a && !isSettled(v)) {
                return;
            }
        }
        if (a == model.count) {
            note();
            return;
        }
        int top = model.isUnbounded(a) ? 2 * beyond : model.capacity[a];
        for (int units = 0; units <= top; units++) {
            flow[a] = units;
            balance[model.from[a]] -= units;
            balance[model.to[a]] += units;
            tryFrom(a + 1);
            balance[model.from[a]] += units;
            balance[model.to[a]] -= units;
        }
    }

    private boolean isSettled(int v) {
        if (!partial) {
            return balance[v] == 0;
        }
        int sent = model.supply[v] - balance[v];
        return model.supply[v] >= 0
            ? sent >= 0 && sent <= model.supply[v]
            : sent <= 0 && sent >= model.supply[v];
    }

    private void note() {
        int cost = 0;
        int amount = 0;
        for (int a = 0; a < model.count; a++) {
            cost += model.cost[a] * flow[a];
        }
        for (int v = 0; v < Model.NODES; v++) {
            amount += model.supply[v] > 0 ? model.supply[v] - balance[v] : 0;
        }
        if (partial) {
            greatestAmount = Math.max(greatestAmount, amount);
            return;
        }
        if (!possible || cost < cheapest) {
            possible = true;
            cheapest = cost;
            least = flow.clone();
            most = flow.clone();
        }
        for (int a = 0; cost == cheapest && a < model.count; a++) {
            least[a] = Math.min(least[a], flow[a]);
            most[a] = Math.max(most[a], flow[a]);
        }
    }
}
