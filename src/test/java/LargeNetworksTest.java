import java.util.Random;

/** Promises 7 to 14 on networks of up to 20 arcs, against another way of finding the answers. */
public final class LargeNetworksTest {
    private static final Due DUE = new Due();
    private static int solved;
    private static int endless;
    private static int impossible;

    public static void main(String[] args) {
        Random random = new Random(15112026);
        for (int run = 0; run < 400; run++) {
            int nodes = 3 + random.nextInt(6);
            int mostUnits = random.nextInt(2) == 0 ? 30 : 3;
            int mostCost = random.nextInt(2) == 0 ? 20 : 2;
            RandomRun pair = new RandomRun(random, nodes, 20, mostUnits, mostCost);
            for (int step = 0; step < 4; step++) {
                check("large run " + run + " step " + step + ": ", pair.ledger, pair.model);
                pair.changeSomething();
            }
        }
        System.out.println(solved + " solved, " + endless + " endless, " + impossible + " impossible");
        DUE.due("enough of each state", solved > 300 && endless > 50 && impossible > 300, true);
        DUE.end();
    }

    private static void check(String where, FlowLedger ledger, Model model) {
        Canceller other = new Canceller(model);
        int state = other.state();
        solved += state == 0 ? 1 : 0;
        endless += state == FlowLedger.ENDLESS ? 1 : 0;
        impossible += state == FlowLedger.IMPOSSIBLE ? 1 : 0;
        DUE.due(where + "amount", ledger.amount(), model.leastCut());
        DUE.due(where + "bottleneck", ledger.bottleneck(), model.bottleneck());
        DUE.due(where + "state", ledger.state(), state);
        DUE.due(where + "cost", ledger.cost(), state == 0 ? other.cheapest() : state);
        for (int a = 0; a < model.count; a++) {
            DUE.due(where + "least " + a, ledger.least(a), state == 0 ? other.leastOf(a) : state);
            DUE.due(where + "most " + a, ledger.most(a), state == 0 ? other.mostOf(a) : state);
            DUE.due(where + "slack " + a, ledger.slack(a), state == 0 ? other.slackOf(a) : state);
        }
        for (int u = 0; u < Model.NODES; u++) {
            int v = (u * 3 + model.count) % Model.NODES;
            int want = state == 0 ? other.marginal(u, v) : state;
            DUE.due(where + "marginal " + u + " " + v, ledger.marginal(u, v), want);
        }
    }
}
