/** Every boundary case that "What it is" and "Terms" name: a test for each sentence. */
public final class TermsTest {
    private static final Sentences TERMS = new Sentences();

    public static void main(String[] args) {
        TERMS.test("at most 512 calls after it has been made", TermsTest::calls);
        TERMS.test("NODES 0 .. 7", TermsTest::nodes);
        TERMS.test("a SUPPLY, a whole number from -30 to 30 (below 0 a demand)", TermsTest::supplies);
        TERMS.test("at first 0", TermsTest::firstSupplies);
        TERMS.test("ARCS are numbered 0, 1, .. in the order in which they were added",
            TermsTest::arcNumbers);
        TERMS.test("at most 20", TermsTest::mostArcs);
        TERMS.test("leads FROM a node TO another one", TermsTest::fromAndTo);
        TERMS.test("a COST from -20 to 20 for each unit", TermsTest::costs);
        TERMS.test("a CAPACITY from 0 to 30", TermsTest::capacities);
        TERMS.test("or is UNBOUNDED", TermsTest::unbounded);
        TERMS.test("from 0 to its capacity", TermsTest::flowOfAnArc);
        TERMS.test("any from 0 on, if it is unbounded", TermsTest::flowOfAnUnboundedArc);
        TERMS.test("for every node what the arcs from it have together is its supply and what the"
            + " arcs to it have together", TermsTest::balance);
        TERMS.test("the sum of the arcs' costs times what they have", TermsTest::costOfAFlow);
        TERMS.test("IMPOSSIBLE if there is no flow", TermsTest::impossible);
        TERMS.test("otherwise ENDLESS if for every number there is a flow that costs less",
            TermsTest::endless);
        TERMS.test("otherwise SOLVED", TermsTest::solved);
        TERMS.test("exactly when some arcs that are all unbounded lead round from a node back to"
            + " itself at a cost below 0 together", TermsTest::circles);
        TERMS.test("every node with a supply s of at least 0 sends on, beyond what comes in, from 0"
            + " to s", TermsTest::sendingOn);
        TERMS.test("every node with a supply s below 0 keeps from 0 to -s of what comes in",
            TermsTest::keeping);
        TERMS.test("its AMOUNT is what the nodes with supplies above 0 send on together, beyond what"
            + " comes in", TermsTest::amounts);
        TERMS.test("All answers are for the network as it is when they are asked for.",
            TermsTest::asItIs);
        TERMS.end();
    }

    private static void due(String call, long got, long want) {
        TERMS.due(call, got, want);
    }

    private static void due(String call, boolean got, boolean want) {
        TERMS.due(call, got, want);
    }

    /** Filled and emptied 24 times, which are 504 calls, and then 8 more. */
    private static void calls() {
        FlowLedger x = new FlowLedger();
        for (int turn = 0; turn < 24; turn++) {
            for (int a = 0; a < 20; a++) {
                due("add in turn " + turn, x.add(a % 8, (a + turn % 7 + 1) % 8, -1, -20), a);
            }
            x.clear();
        }
        due("call 505: supply(0, 2)", x.supply(0, 2), true);
        due("call 506: supply(1, -2)", x.supply(1, -2), true);
        due("call 507: add(0, 1, 1, 3)", x.add(0, 1, 1, 3), 0);
        due("call 508: add(0, 1, -1, 4)", x.add(0, 1, -1, 4), 1);
        due("call 509: cost()", x.cost(), 7);
        due("call 510: marginal(0, 1)", x.marginal(0, 1), 4);
        due("call 511: most(1)", x.most(1), 1);
        due("call 512: slack(1)", x.slack(1), 1);
    }

    private static void nodes() {
        for (int u = 0; u < 8; u++) {
            for (int v = 0; v < 8; v++) {
                if (u != v) {
                    fromNodeToNode(u, v);
                }
            }
        }
        for (int node : Nets.NOT_NODES) {
            FlowLedger x = new FlowLedger();
            due("supply(" + node + ", 1)", x.supply(node, 1), false);
            due("add(" + node + ", 0, 1, 1)", x.add(node, 0, 1, 1), FlowLedger.BAD);
            due("add(7, " + node + ", 1, 1)", x.add(7, node, 1, 1), FlowLedger.BAD);
            due("marginal(" + node + ", 0)", x.marginal(node, 0), FlowLedger.BAD);
        }
    }

    private static void fromNodeToNode(int u, int v) {
        String way = " for nodes " + u + " and " + v;
        FlowLedger x = new FlowLedger();
        due("supply" + way, x.supply(u, 1), true);
        due("demand" + way, x.supply(v, -1), true);
        due("bottleneck() without an arc" + way, x.bottleneck(), 1 << u);
        due("add" + way, x.add(u, v, 1, 3), 0);
        due("cost()" + way, x.cost(), 3);
        due("marginal back" + way, x.marginal(v, u), -3);
        due("bottleneck()" + way, x.bottleneck(), 0);
    }

    private static void supplies() {
        for (int s = -30; s <= 30; s++) {
            for (int v = 0; v < 8; v++) {
                int w = (v + 1) % 8;
                FlowLedger x = Nets.ring();
                x.add(w, v, -1, 1);
                due("supply(" + v + ", " + s + ")", x.supply(v, s), true);
                due("supply(" + w + ", " + -s + ")", x.supply(w, -s), true);
                due("cost() with " + s, x.cost(), Math.abs(s));
                due("amount() with " + s, x.amount(), Math.abs(s));
            }
        }
        for (int s : Nets.NOT_SUPPLIES) {
            for (int v = 0; v < 8; v++) {
                due("supply(" + v + ", " + s + ")", new FlowLedger().supply(v, s), false);
            }
        }
    }

    private static void firstSupplies() {
        FlowLedger x = Nets.ring();
        due("state()", x.state(), 0);
        due("amount()", x.amount(), 0);
        due("cost()", x.cost(), 0);
        due("bottleneck()", x.bottleneck(), 0);
    }

    /** Arc a is the one at cost 7a mod 20, so the units tell which arc has which number. */
    private static void arcNumbers() {
        for (int units = 0; units <= 20; units++) {
            FlowLedger x = Nets.sending(units);
            for (int a = 0; a < 20; a++) {
                due("add number " + a, x.add(0, 1, 1, a * 7 % 20), a);
                due("a refused add", x.add(1, 1, 1, 1), FlowLedger.BAD);
            }
            for (int a = 0; a < 20; a++) {
                int want = a * 7 % 20 < units ? 1 : 0;
                due("least(" + a + ") of " + units, x.least(a), want);
                due("most(" + a + ") of " + units, x.most(a), want);
            }
        }
    }

    private static void mostArcs() {
        FlowLedger x = Nets.full();
        due("arcs()", x.arcs(), 20);
        due("the last has its unit: least(19)", x.least(19), 1);
        due("most(19)", x.most(19), 1);
        due("cost()", x.cost(), 190);
        due("one more: add(0, 1, 1, 1)", x.add(0, 1, 1, 1), FlowLedger.FULL);
        due("arcs()", x.arcs(), 20);
        due("cost()", x.cost(), 190);
        due("change(19, 20, -20)", x.change(19, 20, -20), true);
        due("the last takes all: least(19)", x.least(19), 20);
        due("there is no arc 20: change(20, 1, 1)", x.change(20, 1, 1), false);
        due("least(20)", x.least(20), FlowLedger.BAD);
        due("most(20)", x.most(20), FlowLedger.BAD);
        due("slack(20)", x.slack(20), FlowLedger.BAD);
    }

    private static void fromAndTo() {
        for (int v = 0; v < 8; v++) {
            FlowLedger x = new FlowLedger();
            due("add(" + v + ", " + v + ", 1, 1)", x.add(v, v, 1, 1), FlowLedger.BAD);
            due("unbounded, below 0", x.add(v, v, -1, -20), FlowLedger.BAD);
        }
        FlowLedger x = Nets.sending(-1);
        x.add(0, 1, -1, 1);
        due("only the wrong way: state()", x.state(), FlowLedger.IMPOSSIBLE);
        due("the way back: add(1, 0, -1, 1)", x.add(1, 0, -1, 1), 1);
        due("state()", x.state(), 0);
    }

    private static void costs() {
        for (int cost = -20; cost <= 20; cost++) {
            FlowLedger x = Nets.sending(3);
            due("add at " + cost, x.add(0, 1, 3, cost), 0);
            due("cost() at " + cost, x.cost(), 3 * cost);
        }
        for (int cost : Nets.NOT_COSTS) {
            due("add at " + cost, new FlowLedger().add(0, 1, 1, cost), FlowLedger.BAD);
        }
    }

    private static void capacities() {
        for (int capacity = 0; capacity <= 30; capacity++) {
            FlowLedger x = Nets.waiting();
            due("add with " + capacity, x.add(0, 1, capacity, 1), 4);
            due("amount() with " + capacity, x.amount(), capacity);
            FlowLedger y = Nets.sending(capacity);
            due("add with " + capacity, y.add(0, 1, capacity, 1), 0);
            due("just enough: cost() with " + capacity, y.cost(), capacity);
            due("not one more: marginal(0, 1)", y.marginal(0, 1), FlowLedger.NONE);
        }
        for (int capacity : Nets.NOT_CAPACITIES) {
            due("add with " + capacity, new FlowLedger().add(0, 1, capacity, 1), FlowLedger.BAD);
        }
    }

    private static void unbounded() {
        FlowLedger x = Nets.waiting();
        due("add(0, 1, -1, 1)", x.add(0, 1, -1, 1), 4);
        due("all 60 get through: amount()", x.amount(), 60);
        due("cost()", x.cost(), 60);
        due("least(4)", x.least(4), 60);
        due("and more: marginal(0, 1)", x.marginal(0, 1), 1);

        FlowLedger y = Nets.wideWayBack(19);
        due("570 on one arc: least(19)", y.least(19), 570);
        due("cost()", y.cost(), -570);
        y.supply(0, 30);
        y.supply(1, -30);
        due("600, the most that 19 other arcs and a supply bring: least(19)", y.least(19), 600);
        due("most(19)", y.most(19), 600);
        due("cost()", y.cost(), 600 * 19 - 570 * 20);
    }

    private static void flowOfAnArc() {
        FlowLedger x = new FlowLedger();
        x.add(0, 1, 30, 20);
        due("not below 0, though it would save: cost()", x.cost(), 0);
        due("most(0)", x.most(0), 0);
        due("nothing to take back: marginal(1, 0)", x.marginal(1, 0), FlowLedger.NONE);
        x.add(1, 0, 30, -20);
        due("from 0: least(0)", x.least(0), 0);
        due("to 30: most(0)", x.most(0), 30);
        x.change(1, 29, -20);
        due("to what the way back has: most(0)", x.most(0), 29);
        x.change(0, 28, 19);
        due("to its capacity, though it would save: cost()", x.cost(), -28);
        x.change(0, 0, -20);
        due("none at capacity 0: cost()", x.cost(), 0);
        due("most(0)", x.most(0), 0);
    }

    private static void flowOfAnUnboundedArc() {
        FlowLedger x = new FlowLedger();
        x.add(0, 1, -1, 20);
        due("not below 0, though it would save: cost()", x.cost(), 0);
        due("nothing to take back: marginal(1, 0)", x.marginal(1, 0), FlowLedger.NONE);
        x.add(1, 0, -1, -20);
        due("from 0: least(0)", x.least(0), 0);
        due("to any: most(0)", x.most(0), FlowLedger.NONE);
        due("least(1)", x.least(1), 0);
        due("most(1)", x.most(1), FlowLedger.NONE);
    }

    private static void balance() {
        for (int v = 0; v < 8; v++) {
            FlowLedger x = Nets.ring();
            x.supply(v, 1);
            due("one too much at " + v, x.state(), FlowLedger.IMPOSSIBLE);
            x.supply(v, -1);
            due("one too little at " + v, x.state(), FlowLedger.IMPOSSIBLE);
            x.supply((v + 7) % 8, 1);
            due("one from the node before " + v, x.cost(), 1);
            x.supply((v + 7) % 8, 2);
            due("one of two from the node before " + v, x.state(), FlowLedger.IMPOSSIBLE);
            x.supply((v + 1) % 8, -1);
            due("through node " + v, x.cost(), 3);
        }
    }

    private static void costOfAFlow() {
        due("no arcs: cost()", new FlowLedger().cost(), 0);
        due("nothing is sent: cost()", Nets.chain(30).cost(), 0);

        FlowLedger low = new FlowLedger();
        for (int a = 0; a < 20; a++) {
            low.add(a % 2, 1 - a % 2, 30, -20);
        }
        due("20 arcs of 30 at -20: cost()", low.cost(), -12000);

        FlowLedger high = Nets.chain(-1);
        for (int v = 0; v < 4; v++) {
            high.supply(v, 30);
            high.supply(v + 4, -30);
        }
        due("up to 120 on arcs at 20: cost()", high.cost(), 20 * (30 + 60 + 90 + 120 + 90 + 60 + 30));
    }

    private static void impossible() {
        FlowLedger x = Nets.endless();
        x.supply(7, 1);
        due("though arcs lead round below 0: state()", x.state(), FlowLedger.IMPOSSIBLE);
        due("cost()", x.cost(), FlowLedger.IMPOSSIBLE);
        x.supply(6, -1);
        due("with a demand, but no way: state()", x.state(), FlowLedger.IMPOSSIBLE);
        x.add(7, 6, 0, -20);
        due("with a way of capacity 0: state()", x.state(), FlowLedger.IMPOSSIBLE);
        due("one too little: state()", Nets.impossible().state(), FlowLedger.IMPOSSIBLE);
    }

    private static void endless() {
        FlowLedger x = Nets.endless();
        due("without supplies: state()", x.state(), FlowLedger.ENDLESS);
        x.supply(7, 1);
        x.supply(6, -1);
        x.add(7, 6, 1, 20);
        due("with a flow elsewhere: state()", x.state(), FlowLedger.ENDLESS);
        x.change(1, 30, -20);
        due("17 times 30 less, and no more: state()", x.state(), 0);
        due("cost()", x.cost(), 20 - 17 * 30);
    }

    private static void solved() {
        due("no arcs, no supplies: state()", new FlowLedger().state(), 0);
        due("20 units on 20 arcs: state()", Nets.full().state(), 0);
        FlowLedger x = Nets.endless();
        x.change(1, -1, -3);
        due("round at 0: state()", x.state(), 0);
        due("cost()", x.cost(), 0);
    }

    /** Circles of each length, from each node, of each sum about 0, and with one arc bounded. */
    private static void circles() {
        for (int length = 2; length <= 8; length++) {
            for (int first = 0; first < 8; first++) {
                for (int sum = -1; sum <= 1; sum++) {
                    circle(length, first, sum);
                }
            }
        }
        FlowLedger beside = new FlowLedger();
        beside.add(0, 1, -1, -20);
        beside.add(0, 1, -1, -20);
        beside.add(1, 2, -1, -20);
        due("arcs that do not lead round: state()", beside.state(), 0);
        due("cost()", beside.cost(), 0);

        FlowLedger late = new FlowLedger();
        for (int v = 6; v >= 0; v--) {
            late.add(v, v + 1, -1, -1);
        }
        due("seven arcs in a row, the last one first: state()", late.state(), 0);
        due("add(7, 0, -1, 7)", late.add(7, 0, -1, 7), 7);
        due("led round at 0: state()", late.state(), 0);
        late.change(7, -1, 6);
        due("led round at -1: state()", late.state(), FlowLedger.ENDLESS);

        FlowLedger eight = new FlowLedger();
        eight.add(0, 1, -1, 10);
        eight.add(1, 0, -1, -9);
        eight.add(0, 2, -1, -10);
        eight.add(2, 0, -1, 9);
        due("two circles at one node, one below 0: state()", eight.state(), FlowLedger.ENDLESS);
        eight.change(2, -1, -9);
        due("one at 0, one above: state()", eight.state(), 0);
    }

    private static void circle(int length, int first, int sum) {
        String name = length + " arcs round from " + first + " at " + sum;
        FlowLedger x = new FlowLedger();
        for (int step = 0; step < length; step++) {
            int cost = step == 0 ? sum + length - 1 : -1;
            x.add((first + step) % 8, (first + (step + 1) % length) % 8, -1, cost);
        }
        due(name + ": state()", x.state(), sum < 0 ? FlowLedger.ENDLESS : 0);
        int last = length - 1;
        x.change(last, 30, -1);
        due(name + ", one bounded: state()", x.state(), 0);
        due(name + ", one bounded: cost()", x.cost(), Math.min(0, 30 * sum));
        x.change(last, 0, -1);
        due(name + ", one closed: cost()", x.cost(), 0);
    }

    private static void sendingOn() {
        FlowLedger x = new FlowLedger();
        x.add(0, 1, -1, 0);
        x.supply(1, -30);
        due("a supply of 0 makes none: amount()", x.amount(), 0);
        x.supply(0, 3);
        due("up to its supply: amount()", x.amount(), 3);
        x.supply(1, -2);
        due("less than its supply: amount()", x.amount(), 2);
        x.supply(1, 0);
        due("a supply of 0 keeps none: amount()", x.amount(), 0);
        x.supply(1, 5);
        due("a supply above 0 keeps none: amount()", x.amount(), 0);
        x.add(1, 2, -1, 0);
        x.supply(2, -30);
        due("it sends on what comes in: amount()", x.amount(), 8);
        x.supply(1, 0);
        due("so does a supply of 0: amount()", x.amount(), 3);
    }

    private static void keeping() {
        FlowLedger x = new FlowLedger();
        x.add(0, 1, -1, 0);
        x.add(1, 2, -1, 0);
        x.supply(0, 10);
        x.supply(1, -4);
        due("up to its demand: amount()", x.amount(), 4);
        x.supply(2, -5);
        due("the rest goes on: amount()", x.amount(), 9);
        x.supply(0, 3);
        due("less than the demands: amount()", x.amount(), 3);
        x.supply(0, 0);
        due("a demand makes none for the next: amount()", x.amount(), 0);
        due("bottleneck()", x.bottleneck(), 0);
    }

    private static void amounts() {
        FlowLedger x = new FlowLedger();
        x.add(0, 1, -1, 0);
        x.add(1, 2, -1, 0);
        x.supply(0, 5);
        x.supply(1, 1);
        x.supply(2, -6);
        due("what goes through another supply counts once: amount()", x.amount(), 6);
        x.add(2, 0, -1, 0);
        due("what leads round counts for nothing: amount()", x.amount(), 6);
        x.supply(0, 0);
        x.supply(1, 0);
        due("no supplies: amount()", x.amount(), 0);
    }

    /** A ledger that was asked before the last step answers as one that was not. */
    private static void asItIs() {
        for (int steps = 1; steps <= 12; steps++) {
            FlowLedger asked = new FlowLedger();
            FlowLedger fresh = new FlowLedger();
            for (int step = 0; step < steps; step++) {
                if (step == steps - 1) {
                    Answers.of(asked);
                }
                take(step, asked);
                take(step, fresh);
            }
            TERMS.same("after step " + steps, Answers.of(asked), Answers.of(fresh));
        }
        FlowLedger x = Nets.tight();
        due("cost()", x.cost(), 20);
        due("change(0, 3, 5)", x.change(0, 3, 5), true);
        due("after change: cost()", x.cost(), 22);
        due("supply(0, 5)", x.supply(0, 5), true);
        due("after supply: cost()", x.cost(), FlowLedger.IMPOSSIBLE);
        due("supply(1, -5)", x.supply(1, -5), true);
        due("after supply: cost()", x.cost(), 29);
        due("add(0, 1, 1, -1)", x.add(0, 1, 1, -1), 2);
        due("after add: cost()", x.cost(), 21);
        x.clear();
        due("after clear: cost()", x.cost(), 0);
    }

    private static void take(int step, FlowLedger x) {
        switch (step) {
            case 0 -> x.add(0, 1, 5, 2);
            case 1 -> x.supply(0, 6);
            case 2 -> x.supply(1, -6);
            case 3 -> x.add(0, 1, -1, 4);
            case 4 -> x.change(0, 6, 2);
            case 5 -> x.add(1, 0, -1, -4);
            case 6 -> x.change(2, -1, -5);
            case 7 -> x.supply(7, 1);
            case 8 -> x.change(2, 30, -5);
            case 9 -> x.supply(7, 0);
            case 10 -> x.clear();
            default -> x.add(3, 2, 1, 1);
        }
    }
}
