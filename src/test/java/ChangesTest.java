/** Every boundary case that the promises 1 to 6 name: a test for each sentence. */
public final class ChangesTest {
    private static final Sentences PROMISES = new Sentences();

    public static void main(String[] args) {
        PROMISES.test("1: No arcs.", ChangesTest::newObject);
        PROMISES.test("2: Adds an arc: its number.", ChangesTest::addsAnArc);
        PROMISES.test("2: Its capacity is that number", ChangesTest::capacityOfAnArc);
        PROMISES.test("2: or, for -1, it is unbounded.", ChangesTest::unboundedArc);
        PROMISES.test("2: BAD when from .. is not 0 .. 7", ChangesTest::badFrom);
        PROMISES.test("2: BAD when .. to is not 0 .. 7", ChangesTest::badTo);
        PROMISES.test("2: BAD when .. they are the same", ChangesTest::sameNodes);
        PROMISES.test("2: BAD when .. capacity not -1 .. 30", ChangesTest::badCapacity);
        PROMISES.test("2: BAD when .. cost not -20 .. 20", ChangesTest::badCost);
        PROMISES.test("2: FULL", ChangesTest::fullOfArcs);
        PROMISES.test("3: Arc a gets another capacity", ChangesTest::anotherCapacity);
        PROMISES.test("3: (-1: unbounded)", ChangesTest::changedToUnbounded);
        PROMISES.test("3: and another cost", ChangesTest::anotherCost);
        PROMISES.test("3: true", ChangesTest::changeIsTrue);
        PROMISES.test("3: false when there is no such arc", ChangesTest::changeOfNoArc);
        PROMISES.test("3: or a number is out of its bounds", ChangesTest::changeOutOfBounds);
        PROMISES.test("4: A node gets a supply: true", ChangesTest::supplyOfANode);
        PROMISES.test("4: false when node is not 0 .. 7", ChangesTest::supplyOfNoNode);
        PROMISES.test("4: or supply not -30 .. 30", ChangesTest::supplyOutOfBounds);
        PROMISES.test("5: All arcs are gone", ChangesTest::clearedArcs);
        PROMISES.test("5: and all supplies are 0.", ChangesTest::clearedSupplies);
        PROMISES.test("6: How many arcs there are.", ChangesTest::arcs);
        PROMISES.end();
    }

    private static void due(String call, long got, long want) {
        PROMISES.due(call, got, want);
    }

    private static void due(String call, boolean got, boolean want) {
        PROMISES.due(call, got, want);
    }

    private static void newObject() {
        FlowLedger x = new FlowLedger();
        noArcs(x);
        x.add(0, 1, 1, 1);
        x.supply(0, 1);
        FlowLedger y = new FlowLedger();
        noArcs(y);
        due("another object changes nothing here: arcs()", x.arcs(), 1);
        due("state()", x.state(), FlowLedger.IMPOSSIBLE);
    }

    private static void noArcs(FlowLedger x) {
        due("arcs()", x.arcs(), 0);
        for (int a : Nets.notArcs(0)) {
            due("least(" + a + ")", x.least(a), FlowLedger.BAD);
            due("most(" + a + ")", x.most(a), FlowLedger.BAD);
            due("slack(" + a + ")", x.slack(a), FlowLedger.BAD);
            due("change(" + a + ", 1, 1)", x.change(a, 1, 1), false);
        }
        due("state()", x.state(), 0);
        due("cost()", x.cost(), 0);
        due("amount()", x.amount(), 0);
        due("bottleneck()", x.bottleneck(), 0);
        due("marginal(0, 7)", x.marginal(0, 7), FlowLedger.NONE);
    }

    private static void addsAnArc() {
        FlowLedger x = new FlowLedger();
        for (int a = 0; a < 20; a++) {
            due("add", x.add(a % 8, (a + 3) % 8, a, a - 20), a);
        }
        FlowLedger y = Nets.sending(1);
        due("one beside the other: add(0, 1, 1, 1)", y.add(0, 1, 1, 1), 0);
        due("add(0, 1, 1, 1)", y.add(0, 1, 1, 1), 1);
        due("each is an arc of its own: most(0)", y.most(0), 1);
        due("least(0)", y.least(0), 0);
        due("marginal(0, 1)", y.marginal(0, 1), 1);
    }

    private static void capacityOfAnArc() {
        for (int capacity = 0; capacity <= 30; capacity++) {
            FlowLedger x = Nets.waiting();
            due("add(0, 1, " + capacity + ", 20)", x.add(0, 1, capacity, 20), 4);
            due("amount()", x.amount(), capacity);
        }
    }

    private static void unboundedArc() {
        FlowLedger x = Nets.waiting();
        due("add(0, 1, -1, 20)", x.add(0, 1, -1, 20), 4);
        due("amount()", x.amount(), 60);
        due("cost()", x.cost(), 1200);
    }

    private static void badAdd(int from, int to, int capacity, int cost) {
        FlowLedger x = new FlowLedger();
        String call = "add(" + from + ", " + to + ", " + capacity + ", " + cost + ")";
        due(call, x.add(from, to, capacity, cost), FlowLedger.BAD);
        due("arcs() after " + call, x.arcs(), 0);
        due("add(0, 1, 1, 1) after " + call, x.add(0, 1, 1, 1), 0);
    }

    private static void goodAdd(int from, int to, int capacity, int cost) {
        String call = "add(" + from + ", " + to + ", " + capacity + ", " + cost + ")";
        due(call, new FlowLedger().add(from, to, capacity, cost), 0);
    }

    private static void badFrom() {
        goodAdd(0, 1, 1, 1);
        goodAdd(7, 1, 1, 1);
        for (int from : Nets.NOT_NODES) {
            badAdd(from, 0, 1, 1);
            badAdd(from, 7, -1, 1);
        }
    }

    private static void badTo() {
        goodAdd(1, 0, 1, 1);
        goodAdd(1, 7, 1, 1);
        for (int to : Nets.NOT_NODES) {
            badAdd(0, to, 1, 1);
            badAdd(7, to, -1, 1);
        }
    }

    private static void sameNodes() {
        for (int v = 0; v < 8; v++) {
            badAdd(v, v, 1, 1);
            badAdd(v, v, -1, -20);
            badAdd(v, v, 0, 0);
        }
        for (int node : Nets.NOT_NODES) {
            badAdd(node, node, 1, 1);
        }
    }

    private static void badCapacity() {
        goodAdd(0, 1, -1, 1);
        goodAdd(0, 1, 0, 1);
        goodAdd(0, 1, 30, 1);
        for (int capacity : Nets.NOT_CAPACITIES) {
            badAdd(0, 1, capacity, 1);
        }
    }

    private static void badCost() {
        goodAdd(0, 1, 1, -20);
        goodAdd(0, 1, 1, 0);
        goodAdd(0, 1, 1, 20);
        for (int cost : Nets.NOT_COSTS) {
            badAdd(0, 1, 1, cost);
            badAdd(0, 1, -1, cost);
        }
    }

    private static void fullOfArcs() {
        FlowLedger x = Nets.full();
        due("add(0, 1, 1, 1)", x.add(0, 1, 1, 1), FlowLedger.FULL);
        due("again", x.add(0, 1, 1, 1), FlowLedger.FULL);
        due("unbounded", x.add(7, 0, -1, -20), FlowLedger.FULL);
        due("with a wrong number", x.add(0, 1, 31, 1), FlowLedger.BAD);
        due("a change makes no place: change(0, 0, 0)", x.change(0, 0, 0), true);
        due("add(0, 1, 1, 1)", x.add(0, 1, 1, 1), FlowLedger.FULL);
        x.clear();
        due("clear does: add(0, 1, 1, 1)", x.add(0, 1, 1, 1), 0);
    }

    private static void anotherCapacity() {
        FlowLedger x = Nets.waiting();
        x.add(0, 1, 7, 1);
        for (int capacity = 0; capacity <= 30; capacity++) {
            due("change(4, " + capacity + ", 1)", x.change(4, capacity, 1), true);
            due("amount()", x.amount(), capacity);
            due("change(4, " + (30 - capacity) + ", 1)", x.change(4, 30 - capacity, 1), true);
            due("amount()", x.amount(), 30 - capacity);
        }
        FlowLedger y = Nets.full();
        due("the first: change(0, 0, 0)", y.change(0, 0, 0), true);
        due("state()", y.state(), FlowLedger.IMPOSSIBLE);
        due("the last: change(19, 2, 19)", y.change(19, 2, 19), true);
        due("cost()", y.cost(), 190 + 19);
    }

    private static void changedToUnbounded() {
        FlowLedger x = Nets.waiting();
        x.add(0, 1, 30, 1);
        due("change(4, -1, 1)", x.change(4, -1, 1), true);
        due("amount()", x.amount(), 60);
        due("change(4, 30, 1)", x.change(4, 30, 1), true);
        due("bounded again: amount()", x.amount(), 30);

        FlowLedger y = Nets.endless();
        due("change(0, 30, 3)", y.change(0, 30, 3), true);
        due("state()", y.state(), 0);
        due("change(0, -1, 3)", y.change(0, -1, 3), true);
        due("state()", y.state(), FlowLedger.ENDLESS);
    }

    private static void anotherCost() {
        FlowLedger x = Nets.sending(30);
        x.add(0, 1, 30, 7);
        for (int cost = -20; cost <= 20; cost++) {
            due("change(0, 30, " + cost + ")", x.change(0, 30, cost), true);
            due("cost()", x.cost(), 30 * cost);
        }
        FlowLedger y = Nets.full();
        due("the last: change(19, 1, -20)", y.change(19, 1, -20), true);
        due("cost()", y.cost(), 190 - 39);
        due("the first: change(0, 1, 20)", y.change(0, 1, 20), true);
        due("cost()", y.cost(), 190 - 39 + 20);
    }

    private static void changeIsTrue() {
        FlowLedger x = Nets.tight();
        due("the same numbers: change(0, 4, 5)", x.change(0, 4, 5), true);
        due("cost()", x.cost(), 20);
        due("in an impossible network", Nets.impossible().change(0, 4, 1), true);
        due("in an endless network", Nets.endless().change(1, -1, -4), true);
        due("in a full network", Nets.full().change(19, 30, 20), true);
        due("arcs()", x.arcs(), 2);
    }

    private static void changeOfNoArc() {
        FlowLedger x = Nets.tight();
        for (int a : Nets.notArcs(2)) {
            due("change(" + a + ", 1, 1)", x.change(a, 1, 1), false);
        }
        due("cost()", x.cost(), 20);
        due("arcs()", x.arcs(), 2);
        FlowLedger y = Nets.full();
        for (int a : Nets.notArcs(20)) {
            due("full: change(" + a + ", 1, 1)", y.change(a, 1, 1), false);
        }
        y.clear();
        due("after clear: change(0, 1, 1)", y.change(0, 1, 1), false);
        due("after clear: change(19, 1, 1)", y.change(19, 1, 1), false);
    }

    private static void changeOutOfBounds() {
        FlowLedger x = Nets.tight();
        for (int capacity : Nets.NOT_CAPACITIES) {
            due("change(0, " + capacity + ", 9)", x.change(0, capacity, 9), false);
            due("cost()", x.cost(), 20);
        }
        for (int cost : Nets.NOT_COSTS) {
            due("change(0, 3, " + cost + ")", x.change(0, 3, cost), false);
            due("cost()", x.cost(), 20);
        }
    }

    private static void supplyOfANode() {
        int[] supplies = {30, -30, 0, 1, -1, 29, -29};
        for (int v = 0; v < 8; v++) {
            int w = (v + 1) % 8;
            FlowLedger x = Nets.ring();
            for (int supply : supplies) {
                due("supply(" + v + ", " + supply + ")", x.supply(v, supply), true);
                due("supply(" + w + ", " + -supply + ")", x.supply(w, -supply), true);
                int steps = supply < 0 ? 7 : 1;
                due("it takes the place of the old one: cost()", x.cost(), Math.abs(supply) * steps);
            }
        }
    }

    private static void supplyOfNoNode() {
        FlowLedger x = Nets.tight();
        for (int node : Nets.NOT_NODES) {
            due("supply(" + node + ", 1)", x.supply(node, 1), false);
            due("supply(" + node + ", 0)", x.supply(node, 0), false);
            due("cost()", x.cost(), 20);
        }
    }

    private static void supplyOutOfBounds() {
        for (int v = 0; v < 8; v++) {
            FlowLedger x = Nets.ring();
            x.supply(v, 30);
            x.supply((v + 1) % 8, -30);
            for (int supply : Nets.NOT_SUPPLIES) {
                due("supply(" + v + ", " + supply + ")", x.supply(v, supply), false);
                due("cost()", x.cost(), 30);
            }
        }
    }

    private static void clearedArcs() {
        FlowLedger x = Nets.full();
        x.clear();
        noArcs(x);
        x.clear();
        noArcs(x);
        due("numbers begin anew: add(2, 3, 5, 6)", x.add(2, 3, 5, 6), 0);
        due("only the new arc: marginal(2, 3)", x.marginal(2, 3), 6);
        due("marginal(0, 1)", x.marginal(0, 1), FlowLedger.NONE);
        for (int a = 1; a < 20; a++) {
            due("it fills again: add", x.add(0, 1, 1, 1), a);
        }
        due("add(0, 1, 1, 1)", x.add(0, 1, 1, 1), FlowLedger.FULL);

        FlowLedger y = Nets.endless();
        y.clear();
        due("endless before: state()", y.state(), 0);
        FlowLedger z = new FlowLedger();
        z.clear();
        noArcs(z);
    }

    private static void clearedSupplies() {
        for (int v = 0; v < 8; v++) {
            FlowLedger x = new FlowLedger();
            x.supply(v, 30);
            x.clear();
            due("supply of " + v + ": state()", x.state(), 0);
            due("amount()", x.amount(), 0);
            due("bottleneck()", x.bottleneck(), 0);
            x.supply(v, -30);
            x.clear();
            due("demand of " + v + ": state()", x.state(), 0);
        }
        FlowLedger y = Nets.sending(30);
        y.clear();
        y.add(0, 1, -1, 1);
        due("supply and demand: amount()", y.amount(), 0);
        due("cost()", y.cost(), 0);
    }

    private static void arcs() {
        FlowLedger x = new FlowLedger();
        due("arcs()", x.arcs(), 0);
        for (int a = 0; a < 20; a++) {
            x.add(0, 1, a, 1);
            due("after add: arcs()", x.arcs(), a + 1);
            x.add(0, 1, 31, 1);
            due("after a refused add: arcs()", x.arcs(), a + 1);
            x.change(a, 0, 0);
            due("after change: arcs()", x.arcs(), a + 1);
        }
        x.add(0, 1, 1, 1);
        due("after the 21st: arcs()", x.arcs(), 20);
        x.change(20, 1, 1);
        due("after a refused change: arcs()", x.arcs(), 20);
        x.clear();
        due("after clear: arcs()", x.arcs(), 0);
        x.add(0, 1, 1, 1);
        due("after the next: arcs()", x.arcs(), 1);
    }
}
