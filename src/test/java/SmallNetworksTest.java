import java.util.Random;

/** Promises 7 to 14 on very small networks, against all of their flows. */
public final class SmallNetworksTest {
    private static final Due DUE = new Due();
    private static int solved;
    private static int endless;
    private static int impossible;

    public static void main(String[] args) {
        Random random = new Random(20261115);
        for (int run = 0; run < 300; run++) {
            RandomRun pair = new RandomRun(random, 2 + random.nextInt(3), 5, 2, 1 + random.nextInt(4));
            for (int step = 0; step < 4; step++) {
                check("small run " + run + " step " + step + ": ", pair.ledger, pair.model);
                pair.changeSomething();
            }
        }
        System.out.println(solved + " solved, " + endless + " endless, " + impossible + " impossible");
        DUE.due("enough of each state", solved > 100 && endless > 20 && impossible > 100, true);
        DUE.end();
    }

    private static void check(String where, FlowLedger ledger, Model model) {
        Brute brute = new Brute(model).flows();
        int state = brute.state();
        solved += state == 0 ? 1 : 0;
        endless += state == FlowLedger.ENDLESS ? 1 : 0;
        impossible += state == FlowLedger.IMPOSSIBLE ? 1 : 0;
        DUE.due(where + "amount", ledger.amount(), brute.partialFlows().greatestAmount);
        DUE.due(where + "least cut", ledger.amount(), model.leastCut());
        DUE.due(where + "bottleneck", ledger.bottleneck(), model.bottleneck());
        DUE.due(where + "state", ledger.state(), state);
        DUE.due(where + "cost", ledger.cost(), state == 0 ? brute.cheapest : state);
        for (int a = 0; a < model.count; a++) {
            DUE.due(where + "least " + a, ledger.least(a), state == 0 ? brute.least[a] : state);
            DUE.due(where + "most " + a, ledger.most(a), state == 0 ? brute.mostOf(a) : state);
            DUE.due(where + "slack " + a, ledger.slack(a), state == 0 ? brute.slackOf(a) : state);
        }
        for (int u = 0; u < 4; u++) {
            for (int v = 0; v < 4; v++) {
                int want = state == 0 ? brute.marginal(u, v) : state;
                DUE.due(where + "marginal " + u + " " + v, ledger.marginal(u, v), want);
            }
        }
    }
}
