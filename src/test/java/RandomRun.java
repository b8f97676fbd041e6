import java.util.Random;

/** A ledger and a model of it that are changed together, by numbers from a fixed seed. */
final class RandomRun {
    final FlowLedger ledger = new FlowLedger();
    final Model model = new Model();
    private final Random random;
    private final int nodes;
    private final int mostArcs;
    private final int mostUnits;
    private final int mostCost;

    RandomRun(Random random, int nodes, int mostArcs, int mostUnits, int mostCost) {
        this.random = random;
        this.nodes = nodes;
        this.mostArcs = mostArcs;
        this.mostUnits = mostUnits;
        this.mostCost = mostCost;
        int arcs = mostArcs / 3 + random.nextInt(mostArcs - mostArcs / 3 + 1);
        for (int a = 0; a < arcs; a++) {
            addArc();
        }
        int pairs = random.nextInt(nodes);
        for (int pair = 0; pair < pairs; pair++) {
            movePair();
        }
    }

    void changeSomething() {
        int kind = random.nextInt(8);
        if (kind < 2 && model.count < mostArcs) {
            addArc();
        } else if (kind < 5 && model.count > 0) {
            changeArc();
        } else if (kind < 7) {
            movePair();
        } else {
            setSupply(random.nextInt(nodes), random.nextInt(2 * mostUnits + 1) - mostUnits);
        }
    }

    private void addArc() {
        int from = random.nextInt(nodes);
        int to = (from + 1 + random.nextInt(nodes - 1)) % nodes;
        int capacity = capacity();
        int cost = cost();
        int number = ledger.add(from, to, capacity, cost);
        if (number != model.count) {
            throw new IllegalStateException("add answered " + number);
        }
        model.add(from, to, capacity, cost);
    }

    private void changeArc() {
        int a = random.nextInt(model.count);
        model.capacity[a] = capacity();
        model.cost[a] = cost();
        ledger.change(a, model.capacity[a], model.cost[a]);
    }

    /** Moves as much from one node's supply to another's, so that the sum stays what it is. */
    private void movePair() {
        int u = random.nextInt(nodes);
        int v = random.nextInt(nodes);
        int units = random.nextInt(mostUnits + 1);
        if (u != v && model.supply[u] + units <= mostUnits && model.supply[v] - units >= -mostUnits) {
            setSupply(u, model.supply[u] + units);
            setSupply(v, model.supply[v] - units);
        }
    }

    private void setSupply(int node, int supply) {
        model.supply[node] = supply;
        ledger.supply(node, supply);
    }

    private int capacity() {
        return random.nextInt(5) < 2 ? -1 : random.nextInt(mostUnits + 1);
    }

    /** Mostly not below 0, as else hardly a network would be solved. */
    private int cost() {
        int cost = random.nextInt(mostCost + 1);
        return random.nextInt(3) == 0 ? -cost : cost;
    }
}
