/** All that a ledger answers, as one text; it takes at most 129 of the ledger's 512 calls. */
final class Answers {
    private Answers() {
    }

    static String of(FlowLedger x) {
        StringBuilder text = new StringBuilder();
        int arcs = x.arcs();
        text.append("arcs ").append(arcs).append(", state ").append(x.state());
        text.append(", cost ").append(x.cost()).append(", amount ").append(x.amount());
        text.append(", bottleneck ").append(x.bottleneck());
        for (int a = 0; a < arcs; a++) {
            text.append("; arc ").append(a).append(" least ").append(x.least(a));
            text.append(" most ").append(x.most(a)).append(" slack ").append(x.slack(a));
        }
        text.append("; marginals");
        for (int u = 0; u < 8; u++) {
            for (int v = 0; v < 8; v++) {
                text.append(' ').append(x.marginal(u, v));
            }
        }
        return text.toString();
    }
}
