import java.util.Random;

/** Every boundary case that the promises 7 to 10 name: a test for each sentence. */
public final class FlowsTest {
    private static final Sentences PROMISES = new Sentences();

    public static void main(String[] args) {
        PROMISES.test("7: 0 when the network is solved", FlowsTest::stateSolved);
        PROMISES.test("7: IMPOSSIBLE", FlowsTest::stateImpossible);
        PROMISES.test("7: ENDLESS", FlowsTest::stateEndless);
        PROMISES.test("8: The cost of the cheapest flows", FlowsTest::cost);
        PROMISES.test("8: IMPOSSIBLE", FlowsTest::costImpossible);
        PROMISES.test("8: ENDLESS", FlowsTest::costEndless);
        PROMISES.test("9: The greatest amount that a partial flow has.", FlowsTest::amount);
        PROMISES.test("9: The greatest amount, whatever the state", FlowsTest::amountInAnyState);
        PROMISES.test("10: the supplies above 0 of the nodes not in S", FlowsTest::supplyOutside);
        PROMISES.test("10: the demands (as numbers above 0) of those in S", FlowsTest::demandInside);
        PROMISES.test("10: the capacities of the arcs from S to nodes not in S", FlowsTest::arcsOut);
        PROMISES.test("10: (which is the greatest amount)", FlowsTest::cutIsAmount);
        PROMISES.test("10: the smallest one", FlowsTest::smallestSet);
        PROMISES.test("10: as the sum of 2^v of its nodes v", FlowsTest::sumOfPowers);
        PROMISES.test("10: Sets that an unbounded arc leaves are not meant.", FlowsTest::unboundedOut);
        PROMISES.test("10: There is one that is a part of all the others.", FlowsTest::partOfAll);
        PROMISES.end();
    }

    private static void due(String call, long got, long want) {
        PROMISES.due(call, got, want);
    }

    private static void stateSolved() {
        due("new: state()", new FlowLedger().state(), 0);
        due("arcs, but no supplies: state()", Nets.chain(0).state(), 0);
        FlowLedger x = Nets.sending(30);
        x.add(0, 1, 30, 20);
        due("just enough: state()", x.state(), 0);
        x.change(0, -1, -20);
        due("unbounded below 0, but not round: state()", x.state(), 0);
        x.add(1, 0, -1, 20);
        due("round at 0: state()", x.state(), 0);
        due("20 units on 20 arcs: state()", Nets.full().state(), 0);
    }

    private static void stateImpossible() {
        FlowLedger x = Nets.sending(30);
        due("no arc: state()", x.state(), FlowLedger.IMPOSSIBLE);
        x.add(0, 1, 29, -20);
        due("one too little: state()", x.state(), FlowLedger.IMPOSSIBLE);
        x.change(0, -1, 1);
        x.supply(0, 29);
        due("one supply too little: state()", x.state(), FlowLedger.IMPOSSIBLE);
        x.supply(0, 30);
        x.supply(1, -29);
        due("one demand too little: state()", x.state(), FlowLedger.IMPOSSIBLE);
        x.add(1, 0, -1, -20);
        due("arcs round below 0 do not help: state()", x.state(), FlowLedger.IMPOSSIBLE);
    }

    private static void stateEndless() {
        FlowLedger x = Nets.endless();
        due("round at -1: state()", x.state(), FlowLedger.ENDLESS);
        x.change(1, -1, -20);
        due("round at -17: state()", x.state(), FlowLedger.ENDLESS);
        x.add(1, 0, 5, -20);
        due("with a bounded arc beside: state()", x.state(), FlowLedger.ENDLESS);
        x.change(1, 30, -20);
        due("bounded ones alone: state()", x.state(), 0);
    }

    private static void cost() {
        due("new: cost()", new FlowLedger().cost(), 0);
        FlowLedger x = Nets.sending(30);
        x.add(0, 1, 30, 20);
        due("30 units at 20: cost()", x.cost(), 600);
        x.change(0, 30, -20);
        due("30 units at -20: cost()", x.cost(), -600);
        x.change(0, -1, 0);
        due("at 0: cost()", x.cost(), 0);
        x.add(1, 0, 30, -1);
        due("round a bounded circle as often as can be: cost()", x.cost(), -30);
        x.change(1, 30, 0);
        due("round at 0: cost()", x.cost(), 0);

        // Two units would go 0-2-3-1 at 3 each; a third makes one of them go 2-1 and takes 0-3-1.
        FlowLedger y = Nets.sending(3);
        y.add(0, 2, 2, 1);
        y.add(0, 3, 2, 4);
        y.add(2, 3, 2, 1);
        y.add(2, 1, 2, 5);
        y.add(3, 1, 2, 1);
        due("not one unit after the other: cost()", y.cost(), 3 + 6 + 5);
    }

    private static void costImpossible() {
        due("one too little: cost()", Nets.impossible().cost(), FlowLedger.IMPOSSIBLE);
        FlowLedger x = Nets.endless();
        x.supply(7, -1);
        due("before endless: cost()", x.cost(), FlowLedger.IMPOSSIBLE);
    }

    private static void costEndless() {
        FlowLedger x = Nets.endless();
        due("round at -1: cost()", x.cost(), FlowLedger.ENDLESS);
        x.supply(0, 30);
        x.supply(1, -30);
        due("with supplies: cost()", x.cost(), FlowLedger.ENDLESS);
    }

    private static void amount() {
        due("new: amount()", new FlowLedger().amount(), 0);
        FlowLedger x = Nets.sending(30);
        due("no arc: amount()", x.amount(), 0);
        x.add(0, 1, 0, 1);
        due("capacity 0: amount()", x.amount(), 0);
        x.change(0, 1, 1);
        due("capacity 1: amount()", x.amount(), 1);
        x.change(0, 30, 1);
        due("capacity 30: amount()", x.amount(), 30);

        FlowLedger most = new FlowLedger();
        for (int v = 0; v < 4; v++) {
            most.supply(v, 30);
            most.supply(v + 4, -30);
            most.add(v, 7 - v, -1, 20);
        }
        due("four times 30: amount()", most.amount(), 120);

        FlowLedger narrow = Nets.ring();
        for (int v = 0; v < 7; v++) {
            narrow.supply(v, 30);
        }
        due("seven supplies, no demand: amount()", narrow.amount(), 0);
        narrow.supply(7, -30);
        due("seven supplies, one demand: amount()", narrow.amount(), 30);
        due("the straight ways are not blocked: amount()", Nets.crossing().amount(), 2);
    }

    private static void amountInAnyState() {
        due("impossible: amount()", Nets.impossible().amount(), 4);
        FlowLedger x = Nets.endless();
        due("endless: amount()", x.amount(), 0);
        x.supply(0, 30);
        x.supply(1, -29);
        due("neither: amount()", x.amount(), 29);
        x.supply(1, -30);
        due("endless with supplies: amount()", x.amount(), 30);
        due("solved: amount()", Nets.full().amount(), 20);
    }

    private static void supplyOutside() {
        due("new: bottleneck()", new FlowLedger().bottleneck(), 0);
        FlowLedger x = Nets.sending(30);
        due("no way: bottleneck()", x.bottleneck(), 1);
        x.supply(0, 0);
        due("only a demand: bottleneck()", x.bottleneck(), 0);
        x.add(0, 1, 29, 1);
        x.supply(0, 29);
        due("all of the supply gets on: bottleneck()", x.bottleneck(), 0);
        x.supply(0, 30);
        due("one does not: bottleneck()", x.bottleneck(), 1);
        x.supply(2, 1);
        due("another neither: bottleneck()", x.bottleneck(), 5);
        x.supply(0, 29);
        due("only the other: bottleneck()", x.bottleneck(), 4);
    }

    private static void demandInside() {
        FlowLedger x = Nets.sending(30);
        x.add(0, 1, -1, 1);
        due("as much as the supply: bottleneck()", x.bottleneck(), 0);
        x.supply(1, -29);
        due("one less: bottleneck()", x.bottleneck(), 3);
        x.supply(1, 0);
        due("none: bottleneck()", x.bottleneck(), 3);
        x.supply(1, 1);
        due("a supply there too: bottleneck()", x.bottleneck(), 3);
        x.add(1, 2, -1, 1);
        x.supply(2, -30);
        due("31 for 30: bottleneck()", x.bottleneck(), 7);
        x.supply(1, -1);
        due("30 for 31: bottleneck()", x.bottleneck(), 0);
    }

    private static void arcsOut() {
        FlowLedger x = Nets.sending(30);
        x.add(0, 1, 30, 1);
        due("as much as the supply: bottleneck()", x.bottleneck(), 0);
        x.change(0, 29, 1);
        due("one less: bottleneck()", x.bottleneck(), 1);
        x.add(1, 0, 30, 1);
        due("an arc to S does not count: bottleneck()", x.bottleneck(), 1);
        x.change(1, -1, 1);
        due("nor an unbounded one: bottleneck()", x.bottleneck(), 1);
        x.add(0, 1, 1, 20);
        due("two arcs from S: bottleneck()", x.bottleneck(), 0);
        x.change(0, 0, 1);
        x.change(2, 0, 1);
        due("of capacity 0: bottleneck()", x.bottleneck(), 1);
    }

    private static void cutIsAmount() {
        Random random = new Random(16112026);
        for (int run = 0; run < 100; run++) {
            RandomRun pair = new RandomRun(random, 8, 20, 6, 6);
            due("amount() in run " + run, pair.ledger.amount(), pair.model.leastCut());
            int set = pair.ledger.bottleneck();
            due("bottleneck()'s sum in run " + run, pair.model.cutOf(set), pair.ledger.amount());
        }
    }

    private static void smallestSet() {
        FlowLedger x = new FlowLedger();
        x.supply(0, 10);
        x.supply(3, -10);
        x.add(0, 1, 5, 0);
        x.add(1, 2, 5, 0);
        x.add(2, 3, 5, 0);
        due("three in a row hold it up: bottleneck()", x.bottleneck(), 1);
        x.change(0, 6, 0);
        due("the last two: bottleneck()", x.bottleneck(), 3);
        x.change(1, 6, 0);
        due("the last: bottleneck()", x.bottleneck(), 7);
        x.supply(3, -5);
        due("and the demand: bottleneck()", x.bottleneck(), 7);
        x.supply(3, -4);
        due("the demand alone: bottleneck()", x.bottleneck(), 15);
        x.supply(0, 4);
        due("and the supply: bottleneck()", x.bottleneck(), 0);
    }

    private static void sumOfPowers() {
        FlowLedger all = new FlowLedger();
        int sum = 0;
        for (int v = 0; v < 8; v++) {
            FlowLedger x = new FlowLedger();
            x.supply(v, 1);
            due("node " + v + ": bottleneck()", x.bottleneck(), 1 << v);
            all.supply(v, 30);
            sum += 1 << v;
            due("nodes 0 to " + v + ": bottleneck()", all.bottleneck(), sum);
        }
        due("all nodes: bottleneck()", all.bottleneck(), 255);
    }

    private static void unboundedOut() {
        FlowLedger x = new FlowLedger();
        x.supply(7, 1);
        x.add(6, 7, -1, 20);
        due("an unbounded arc to it: bottleneck()", x.bottleneck(), 128);
        x.add(7, 6, 30, 20);
        due("a bounded arc from it, which costs a set more: bottleneck()", x.bottleneck(), 192);
        x.change(1, 0, 20);
        due("of capacity 0: bottleneck()", x.bottleneck(), 128);
        x.change(1, -1, 20);
        due("an unbounded arc from it: bottleneck()", x.bottleneck(), 192);
        x.supply(6, -1);
        due("the supply gets on: bottleneck()", x.bottleneck(), 0);

        FlowLedger ring = Nets.ring();
        ring.supply(3, 2);
        ring.supply(4, -1);
        due("round through all nodes: bottleneck()", ring.bottleneck(), 255);
    }

    private static void partOfAll() {
        Random random = new Random(11162026);
        int others = 0;
        for (int run = 0; run < 100; run++) {
            RandomRun pair = new RandomRun(random, 8, 20, 6, 6);
            int smallest = pair.ledger.bottleneck();
            int least = pair.model.leastCut();
            for (int set = 0; set < 256; set++) {
                if (pair.model.cutOf(set) == least) {
                    due("bottleneck() is a part of " + set, smallest & set, smallest);
                    others += set == smallest || smallest == 0 ? 0 : 1;
                }
            }
        }
        PROMISES.due("there were others", others > 0, true);

        // Two pieces that have nothing to do with each other: in each the smallest set is empty.
        FlowLedger x = new FlowLedger();
        x.supply(0, 5);
        x.supply(1, -5);
        x.add(0, 1, 5, 0);
        x.supply(6, 5);
        x.supply(7, -5);
        x.add(6, 7, 5, 0);
        due("neither piece: bottleneck()", x.bottleneck(), 0);
        x.change(1, 4, 0);
        due("only the second: bottleneck()", x.bottleneck(), 64);
    }
}
