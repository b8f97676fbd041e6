import java.util.function.Supplier;
import java.util.function.ToLongFunction;

/** What "Terms" says of refused calls and of the constants: a test for each sentence and call. */
public final class RefusalsTest {
    private static final Sentences TERMS = new Sentences();

    public static void main(String[] args) {
        TERMS.test("A call that is refused changes nothing: add, BAD", RefusalsTest::badAdd);
        TERMS.test("A call that is refused changes nothing: add, FULL", RefusalsTest::fullAdd);
        TERMS.test("A call that is refused changes nothing: change", RefusalsTest::badChange);
        TERMS.test("A call that is refused changes nothing: supply", RefusalsTest::badSupply);
        TERMS.test("A call that is refused changes nothing: questions", RefusalsTest::badQuestions);
        TERMS.test("in the order in which they are named: add", RefusalsTest::orderOfAdd);
        TERMS.test("in the order in which they are named: marginal", RefusalsTest::orderOfMarginal);
        TERMS.test("in the order in which they are named: least", RefusalsTest::orderOfLeast);
        TERMS.test("in the order in which they are named: most", RefusalsTest::orderOfMost);
        TERMS.test("in the order in which they are named: slack", RefusalsTest::orderOfSlack);
        TERMS.test("BAD: A number is out of its bounds, or there is no such arc.", RefusalsTest::bad);
        TERMS.test("FULL: There are 20 arcs.", RefusalsTest::full);
        TERMS.test("IMPOSSIBLE: The network is impossible.", RefusalsTest::impossible);
        TERMS.test("ENDLESS: The network is endless.", RefusalsTest::endless);
        TERMS.test("NONE: There is none.", RefusalsTest::none);
        TERMS.end();
    }

    private static void due(String call, long got, long want) {
        TERMS.due(call, got, want);
    }

    /** The call is refused, and all answers are those of a ledger on which it was not made. */
    private static void refused(Supplier<FlowLedger> net, String name, long want,
            ToLongFunction<FlowLedger> call) {
        FlowLedger x = net.get();
        due(name, call.applyAsLong(x), want);
        TERMS.same("after " + name, Answers.of(x), Answers.of(net.get()));
    }

    private static void badAdd(Supplier<FlowLedger> net, int from, int to, int capacity, int cost) {
        String name = "add(" + from + ", " + to + ", " + capacity + ", " + cost + ")";
        refused(net, name, FlowLedger.BAD, x -> x.add(from, to, capacity, cost));
    }

    private static void badAdd() {
        for (int node : Nets.NOT_NODES) {
            badAdd(Nets::tight, node, 1, 30, -20);
            badAdd(Nets::tight, 0, node, 30, -20);
        }
        for (int capacity : Nets.NOT_CAPACITIES) {
            badAdd(Nets::tight, 0, 1, capacity, -20);
        }
        for (int cost : Nets.NOT_COSTS) {
            badAdd(Nets::tight, 0, 1, 30, cost);
        }
        badAdd(Nets::tight, 0, 0, 30, -20);
        badAdd(Nets::full, 0, 0, 30, -20);
        badAdd(Nets::impossible, 0, 1, 31, -20);
        badAdd(Nets::endless, 1, 0, 30, -21);
        FlowLedger x = Nets.tight();
        x.add(0, 1, 1, 21);
        due("the next number is as it was: add(0, 1, 1, 20)", x.add(0, 1, 1, 20), 2);
    }

    private static void fullAdd() {
        refused(Nets::full, "add(0, 1, 30, -20)", FlowLedger.FULL, x -> x.add(0, 1, 30, -20));
        refused(Nets::full, "add(1, 0, -1, -20)", FlowLedger.FULL, x -> x.add(1, 0, -1, -20));
        refused(Nets::full, "add(7, 6, 0, 20)", FlowLedger.FULL, x -> x.add(7, 6, 0, 20));
    }

    private static void badChange(Supplier<FlowLedger> net, int a, int capacity, int cost) {
        String name = "change(" + a + ", " + capacity + ", " + cost + ")";
        refused(net, name, 0, x -> x.change(a, capacity, cost) ? 1 : 0);
    }

    private static void badChange() {
        for (int a : Nets.notArcs(2)) {
            badChange(Nets::tight, a, 30, -20);
        }
        for (int a : Nets.notArcs(20)) {
            badChange(Nets::full, a, 30, -20);
        }
        for (int capacity : Nets.NOT_CAPACITIES) {
            badChange(Nets::tight, 0, capacity, 20);
        }
        for (int cost : Nets.NOT_COSTS) {
            badChange(Nets::tight, 0, 3, cost);
        }
        badChange(Nets::impossible, 0, 5, 21);
        badChange(Nets::endless, 1, 31, 20);
    }

    private static void badSupply(int node, int supply) {
        String name = "supply(" + node + ", " + supply + ")";
        refused(Nets::tight, name, 0, x -> x.supply(node, supply) ? 1 : 0);
    }

    private static void badSupply() {
        for (int node : Nets.NOT_NODES) {
            badSupply(node, 30);
        }
        for (int supply : Nets.NOT_SUPPLIES) {
            badSupply(0, supply);
        }
    }

    private static void badQuestions() {
        refused(Nets::tight, "marginal(8, 0)", FlowLedger.BAD, x -> x.marginal(8, 0));
        refused(Nets::tight, "marginal(0, 7)", FlowLedger.NONE, x -> x.marginal(0, 7));
        refused(Nets::tight, "least(2)", FlowLedger.BAD, x -> x.least(2));
        refused(Nets::tight, "most(2)", FlowLedger.BAD, x -> x.most(2));
        refused(Nets::tight, "slack(2)", FlowLedger.BAD, x -> x.slack(2));
        int wrong = FlowLedger.IMPOSSIBLE;
        refused(Nets::impossible, "cost()", wrong, FlowLedger::cost);
        refused(Nets::impossible, "marginal(0, 1)", wrong, x -> x.marginal(0, 1));
        refused(Nets::impossible, "slack(0)", wrong, x -> x.slack(0));
        refused(Nets::endless, "cost()", FlowLedger.ENDLESS, FlowLedger::cost);
        refused(Nets::endless, "marginal(0, 1)", FlowLedger.ENDLESS, x -> x.marginal(0, 1));
        refused(Nets::endless, "slack(0)", FlowLedger.ENDLESS, x -> x.slack(0));
    }

    private static void orderOfAdd() {
        FlowLedger x = Nets.full();
        due("add(-1, 1, 1, 1)", x.add(-1, 1, 1, 1), FlowLedger.BAD);
        due("add(8, 1, 1, 1)", x.add(8, 1, 1, 1), FlowLedger.BAD);
        due("add(0, -1, 1, 1)", x.add(0, -1, 1, 1), FlowLedger.BAD);
        due("add(0, 8, 1, 1)", x.add(0, 8, 1, 1), FlowLedger.BAD);
        due("add(7, 7, 1, 1)", x.add(7, 7, 1, 1), FlowLedger.BAD);
        due("add(0, 1, -2, 1)", x.add(0, 1, -2, 1), FlowLedger.BAD);
        due("add(0, 1, 31, 1)", x.add(0, 1, 31, 1), FlowLedger.BAD);
        due("add(0, 1, 1, -21)", x.add(0, 1, 1, -21), FlowLedger.BAD);
        due("add(0, 1, 1, 21)", x.add(0, 1, 1, 21), FlowLedger.BAD);
        due("add(0, 1, 1, 1)", x.add(0, 1, 1, 1), FlowLedger.FULL);
    }

    private static void orderOfMarginal() {
        FlowLedger x = Nets.impossible();
        due("impossible: marginal(8, 0)", x.marginal(8, 0), FlowLedger.BAD);
        due("impossible: marginal(0, -1)", x.marginal(0, -1), FlowLedger.BAD);
        due("impossible, no way: marginal(0, 7)", x.marginal(0, 7), FlowLedger.IMPOSSIBLE);
        FlowLedger y = Nets.endless();
        due("endless: marginal(-1, 0)", y.marginal(-1, 0), FlowLedger.BAD);
        due("endless: marginal(0, 8)", y.marginal(0, 8), FlowLedger.BAD);
        due("endless, no way: marginal(0, 7)", y.marginal(0, 7), FlowLedger.ENDLESS);
        y.supply(7, 1);
        due("arcs lead round in vain: marginal(0, 1)", y.marginal(0, 1), FlowLedger.IMPOSSIBLE);
    }

    private static void orderOfLeast() {
        due("impossible: least(1)", Nets.impossible().least(1), FlowLedger.BAD);
        due("endless: least(2)", Nets.endless().least(2), FlowLedger.BAD);
        due("endless: least(-1)", Nets.endless().least(-1), FlowLedger.BAD);
        due("arcs lead round in vain: least(0)", roundInVain(-4).least(0), FlowLedger.IMPOSSIBLE);
    }

    private static void orderOfMost() {
        due("impossible: most(1)", Nets.impossible().most(1), FlowLedger.BAD);
        due("endless: most(2)", Nets.endless().most(2), FlowLedger.BAD);
        due("endless: most(-1)", Nets.endless().most(-1), FlowLedger.BAD);
        due("arcs lead round in vain: most(0)", roundInVain(-4).most(0), FlowLedger.IMPOSSIBLE);
        due("at 0: most(0)", roundInVain(-3).most(0), FlowLedger.IMPOSSIBLE);
    }

    private static void orderOfSlack() {
        due("impossible: slack(1)", Nets.impossible().slack(1), FlowLedger.BAD);
        due("endless: slack(2)", Nets.endless().slack(2), FlowLedger.BAD);
        due("endless: slack(-1)", Nets.endless().slack(-1), FlowLedger.BAD);
        due("arcs lead round in vain: slack(0)", roundInVain(-4).slack(0), FlowLedger.IMPOSSIBLE);
        due("at 0: slack(0)", roundInVain(-3).slack(0), FlowLedger.IMPOSSIBLE);
    }

    /** Impossible, with unbounded arcs that lead round at 3 and the cost of the way back. */
    private static FlowLedger roundInVain(int costBack) {
        FlowLedger x = Nets.endless();
        x.change(1, -1, costBack);
        x.supply(7, 1);
        return x;
    }

    private static void bad() {
        due("BAD", FlowLedger.BAD, -1000000);
        due("add(0, 0, 1, 1)", new FlowLedger().add(0, 0, 1, 1), -1000000);
        due("least(0)", new FlowLedger().least(0), -1000000);
    }

    private static void full() {
        due("FULL", FlowLedger.FULL, -1000001);
        due("add(0, 1, 1, 1)", Nets.full().add(0, 1, 1, 1), -1000001);
    }

    private static void impossible() {
        due("IMPOSSIBLE", FlowLedger.IMPOSSIBLE, -1000002);
        due("state()", Nets.impossible().state(), -1000002);
    }

    private static void endless() {
        due("ENDLESS", FlowLedger.ENDLESS, -1000003);
        due("state()", Nets.endless().state(), -1000003);
    }

    private static void none() {
        due("NONE", FlowLedger.NONE, -1000004);
        due("marginal(0, 1)", new FlowLedger().marginal(0, 1), -1000004);
    }
}
