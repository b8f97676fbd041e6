/** Every boundary case that the promises 11 to 14 name: a test for each sentence. */
public final class ArcsTest {
    private static final Sentences PROMISES = new Sentences();

    public static void main(String[] args) {
        PROMISES.test("11: if node u had one more supply and node v one less", ArcsTest::oneMore);
        PROMISES.test("11: The changed network is never endless if this one is solved.",
            ArcsTest::neverEndless);
        PROMISES.test("11: 0 when u is v.", ArcsTest::sameNode);
        PROMISES.test("11: BAD when u .. is not 0 .. 7", ArcsTest::badU);
        PROMISES.test("11: BAD when .. v is not 0 .. 7", ArcsTest::badV);
        PROMISES.test("11: IMPOSSIBLE", ArcsTest::marginalImpossible);
        PROMISES.test("11: ENDLESS", ArcsTest::marginalEndless);
        PROMISES.test("11: NONE when the changed network is impossible.", ArcsTest::marginalNone);
        PROMISES.test("11: Supplies may go beyond 30 in it.", ArcsTest::beyondThirty);
        PROMISES.test("12: The least that arc a has in any cheapest flow.", ArcsTest::least);
        PROMISES.test("12: BAD when there is no such arc", ArcsTest::leastOfNoArc);
        PROMISES.test("12: IMPOSSIBLE", ArcsTest::leastImpossible);
        PROMISES.test("12: ENDLESS", ArcsTest::leastEndless);
        PROMISES.test("13: The most that arc a has in any cheapest flow", ArcsTest::most);
        PROMISES.test("13: NONE when it can have any number.", ArcsTest::mostIsNone);
        PROMISES.test("13: BAD when there is no such arc", ArcsTest::mostOfNoArc);
        PROMISES.test("13: IMPOSSIBLE", ArcsTest::mostImpossible);
        PROMISES.test("13: ENDLESS", ArcsTest::mostEndless);
        PROMISES.test("14: before a cheapest flow as it is now is none any more", ArcsTest::slack);
        PROMISES.test("14: the greatest number k from 0 to 40", ArcsTest::slackFrom0To40);
        PROMISES.test("14: with that cost less k, the network is solved", ArcsTest::slackStaysSolved);
        PROMISES.test("14: some flow that is a cheapest one now is a cheapest one there",
            ArcsTest::slackOfSomeFlow);
        PROMISES.test("14: BAD when there is no such arc", ArcsTest::slackOfNoArc);
        PROMISES.test("14: IMPOSSIBLE", ArcsTest::slackImpossible);
        PROMISES.test("14: ENDLESS", ArcsTest::slackEndless);
        PROMISES.end();
    }

    private static void due(String call, long got, long want) {
        PROMISES.due(call, got, want);
    }

    /** Unbounded arcs lead from 0 to 1 and back at these costs. */
    private static FlowLedger round(int cost, int costBack) {
        FlowLedger x = new FlowLedger();
        x.add(0, 1, -1, cost);
        x.add(1, 0, -1, costBack);
        return x;
    }

    private static void oneMore() {
        FlowLedger x = Nets.tight();
        due("on the dearer arc: marginal(0, 1)", x.marginal(0, 1), 7);
        due("one less on the cheaper: marginal(1, 0)", x.marginal(1, 0), -5);
        due("the network is as it was: cost()", x.cost(), 20);
        x.add(0, 2, 1, 20);
        due("one more for 2: marginal(0, 2)", x.marginal(0, 2), 20);
        due("taken from 1 for 2: marginal(1, 2)", x.marginal(1, 2), 15);

        due("seven arcs at 20: marginal(0, 7)", Nets.chain(1).marginal(0, 7), 140);
        FlowLedger y = Nets.chain(1);
        y.supply(0, 1);
        y.supply(7, -1);
        due("seven arcs saved: marginal(7, 0)", y.marginal(7, 0), -140);
        due("and no room for more: marginal(0, 7)", y.marginal(0, 7), FlowLedger.NONE);
    }

    private static void neverEndless() {
        FlowLedger x = round(20, -20);
        due("round at 0: marginal(0, 1)", x.marginal(0, 1), 20);
        due("marginal(1, 0)", x.marginal(1, 0), -20);
        FlowLedger y = round(3, -4);
        y.change(1, 30, -4);
        due("round at -1, bounded and full: marginal(0, 1)", y.marginal(0, 1), 3);
        due("marginal(1, 0)", y.marginal(1, 0), -3);
    }

    private static void sameNode() {
        FlowLedger full = Nets.full();
        FlowLedger circle = round(20, -20);
        for (int v = 0; v < 8; v++) {
            String call = "marginal(" + v + ", " + v + ")";
            due("new: " + call, new FlowLedger().marginal(v, v), 0);
            due("no room: " + call, full.marginal(v, v), 0);
            due("round at 0: " + call, circle.marginal(v, v), 0);
            due("impossible: " + call, Nets.impossible().marginal(v, v), FlowLedger.IMPOSSIBLE);
            due("endless: " + call, Nets.endless().marginal(v, v), FlowLedger.ENDLESS);
        }
        for (int node : Nets.NOT_NODES) {
            due("no node " + node, new FlowLedger().marginal(node, node), FlowLedger.BAD);
        }
    }

    private static void badU() {
        for (int u : Nets.NOT_NODES) {
            due("marginal(" + u + ", 0)", Nets.tight().marginal(u, 0), FlowLedger.BAD);
            due("marginal(" + u + ", 7)", Nets.tight().marginal(u, 7), FlowLedger.BAD);
            due("impossible: u " + u, Nets.impossible().marginal(u, 0), FlowLedger.BAD);
            due("endless: u " + u, Nets.endless().marginal(u, 0), FlowLedger.BAD);
        }
        due("marginal(0, 1)", Nets.ring().marginal(0, 1), 1);
        due("marginal(7, 0)", Nets.ring().marginal(7, 0), 1);
    }

    private static void badV() {
        for (int v : Nets.NOT_NODES) {
            due("marginal(0, " + v + ")", Nets.tight().marginal(0, v), FlowLedger.BAD);
            due("marginal(7, " + v + ")", Nets.tight().marginal(7, v), FlowLedger.BAD);
            due("impossible: v " + v, Nets.impossible().marginal(0, v), FlowLedger.BAD);
            due("endless: v " + v, Nets.endless().marginal(0, v), FlowLedger.BAD);
        }
        due("marginal(1, 0)", Nets.ring().marginal(1, 0), 7);
        due("marginal(0, 7)", Nets.ring().marginal(0, 7), 7);
    }

    private static void marginalImpossible() {
        FlowLedger x = Nets.impossible();
        due("one too many: marginal(0, 1)", x.marginal(0, 1), FlowLedger.IMPOSSIBLE);
        due("though it would be solved: marginal(1, 0)", x.marginal(1, 0), FlowLedger.IMPOSSIBLE);
        due("apart from it: marginal(6, 7)", x.marginal(6, 7), FlowLedger.IMPOSSIBLE);
    }

    private static void marginalEndless() {
        FlowLedger x = Nets.endless();
        due("in the circle: marginal(0, 1)", x.marginal(0, 1), FlowLedger.ENDLESS);
        x.add(6, 7, 1, 1);
        due("apart from it: marginal(6, 7)", x.marginal(6, 7), FlowLedger.ENDLESS);
        due("without a way: marginal(7, 6)", x.marginal(7, 6), FlowLedger.ENDLESS);
    }

    private static void marginalNone() {
        due("new: marginal(0, 7)", new FlowLedger().marginal(0, 7), FlowLedger.NONE);
        FlowLedger x = Nets.sending(3);
        x.add(0, 1, 3, 5);
        due("no room: marginal(0, 1)", x.marginal(0, 1), FlowLedger.NONE);
        due("no arc: marginal(0, 2)", x.marginal(0, 2), FlowLedger.NONE);
        due("no arc: marginal(2, 0)", x.marginal(2, 0), FlowLedger.NONE);
        x.change(0, 4, 5);
        due("room for one: marginal(0, 1)", x.marginal(0, 1), 5);
        x.supply(0, 0);
        x.supply(1, 0);
        due("nothing to take back: marginal(1, 0)", x.marginal(1, 0), FlowLedger.NONE);
        x.change(0, 0, 5);
        due("capacity 0: marginal(0, 1)", x.marginal(0, 1), FlowLedger.NONE);
        x.change(0, -1, 5);
        due("unbounded: marginal(0, 1)", x.marginal(0, 1), 5);
        due("against an unbounded one: marginal(1, 0)", x.marginal(1, 0), FlowLedger.NONE);
    }

    private static void beyondThirty() {
        FlowLedger x = Nets.sending(30);
        x.add(0, 1, -1, 7);
        x.add(1, 2, 1, 2);
        x.add(3, 0, 1, 4);
        due("31 and -31: marginal(0, 1)", x.marginal(0, 1), 7);
        due("31: marginal(0, 2)", x.marginal(0, 2), 9);
        due("-31: marginal(3, 1)", x.marginal(3, 1), 11);
        due("29 and -29: marginal(1, 0)", x.marginal(1, 0), -7);
        due("the supplies are as they were: cost()", x.cost(), 210);
        FlowLedger y = Nets.sending(-30);
        y.add(1, 0, -1, 7);
        due("the other way: marginal(1, 0)", y.marginal(1, 0), 7);
    }

    private static void least() {
        FlowLedger x = Nets.sending(30);
        x.add(0, 1, 30, 5);
        due("all: least(0)", x.least(0), 30);
        x.add(0, 1, 29, 5);
        due("what the other can't take: least(0)", x.least(0), 1);
        due("the other may have none: least(1)", x.least(1), 0);
        x.change(1, 30, 5);
        due("the other can take all: least(0)", x.least(0), 0);
        x.change(1, 30, 6);
        due("dearer flows do not count: least(0)", x.least(0), 30);
        due("the dearer one: least(1)", x.least(1), 0);
        x.change(1, 0, -20);
        due("capacity 0: least(1)", x.least(1), 0);
        x.change(1, -1, 5);
        due("beside an unbounded one: least(0)", x.least(0), 0);
        due("an unbounded one: least(1)", x.least(1), 0);
        x.change(0, 29, 5);
        due("an unbounded one has the rest: least(1)", x.least(1), 1);

        FlowLedger y = round(20, -20);
        due("round at 0 none has to go: least(0)", y.least(0), 0);
        y.change(1, 30, -20);
        due("nor if one is bounded: least(0)", y.least(0), 0);
        y.change(0, -1, 19);
        due("round at -1 all: least(0)", y.least(0), 30);
        due("least(1)", y.least(1), 30);
        due("the last arc: least(19)", Nets.full().least(19), 1);
    }

    private static void leastOfNoArc() {
        for (int a : Nets.notArcs(2)) {
            due("least(" + a + ")", Nets.tight().least(a), FlowLedger.BAD);
            due("endless: least(" + a + ")", Nets.endless().least(a), FlowLedger.BAD);
        }
        for (int a : Nets.notArcs(1)) {
            due("impossible: least(" + a + ")", Nets.impossible().least(a), FlowLedger.BAD);
        }
        for (int a : Nets.notArcs(20)) {
            due("full: least(" + a + ")", Nets.full().least(a), FlowLedger.BAD);
        }
    }

    private static void leastImpossible() {
        due("least(0)", Nets.impossible().least(0), FlowLedger.IMPOSSIBLE);
    }

    private static void leastEndless() {
        FlowLedger x = Nets.endless();
        x.add(6, 7, 1, 1);
        due("in the circle: least(0)", x.least(0), FlowLedger.ENDLESS);
        due("apart from it: least(2)", x.least(2), FlowLedger.ENDLESS);
    }

    private static void most() {
        FlowLedger x = Nets.sending(30);
        x.add(0, 1, 30, 5);
        x.add(0, 1, 29, 5);
        due("all: most(0)", x.most(0), 30);
        due("its capacity: most(1)", x.most(1), 29);
        x.change(1, 29, 6);
        due("the dearer one: most(1)", x.most(1), 0);
        x.change(1, 0, -20);
        due("capacity 0: most(1)", x.most(1), 0);
        x.change(1, -1, 5);
        due("unbounded, but not round: most(1)", x.most(1), 30);
        x.add(1, 0, 30, -5);
        due("30 and 30 round: most(1)", x.most(1), 60);
        due("the bounded arc of it: most(2)", x.most(2), 30);
        due("its capacity: most(0)", x.most(0), 30);

        FlowLedger y = Nets.wideWayBack(20);
        due("19 times 30 round: most(19)", y.most(19), 570);
        y.supply(0, 30);
        y.supply(1, -30);
        due("and 30 more that have to go: most(19)", y.most(19), 600);
        due("with none round: least(19)", y.least(19), 30);
    }

    private static void mostIsNone() {
        FlowLedger x = round(20, -20);
        due("round at 0: most(0)", x.most(0), FlowLedger.NONE);
        due("most(1)", x.most(1), FlowLedger.NONE);
        x.add(0, 1, 30, 20);
        due("a bounded arc beside: most(2)", x.most(2), 30);
        x.change(2, -1, 20);
        due("an unbounded arc beside: most(2)", x.most(2), FlowLedger.NONE);
        x.add(1, 2, -1, -20);
        due("an unbounded arc out of it: most(3)", x.most(3), 0);
        x.change(0, -1, 20);
        x.change(2, 0, 0);
        x.change(1, -1, -19);
        due("round at 1: most(0)", x.most(0), 0);
        x.change(1, 30, -20);
        due("round at 0, bounded: most(0)", x.most(0), 30);

        FlowLedger y = round(20, -20);
        y.supply(0, 4);
        y.supply(1, -4);
        due("any number from 4 on: most(0)", y.most(0), FlowLedger.NONE);
        due("least(0)", y.least(0), 4);

        FlowLedger ring = Nets.ring();
        ring.change(7, -1, -7);
        for (int a = 0; a < 8; a++) {
            due("eight arcs round at 0: most(" + a + ")", ring.most(a), FlowLedger.NONE);
        }
    }

    private static void mostOfNoArc() {
        for (int a : Nets.notArcs(2)) {
            due("most(" + a + ")", Nets.tight().most(a), FlowLedger.BAD);
            due("endless: most(" + a + ")", Nets.endless().most(a), FlowLedger.BAD);
        }
        for (int a : Nets.notArcs(1)) {
            due("impossible: most(" + a + ")", Nets.impossible().most(a), FlowLedger.BAD);
        }
        for (int a : Nets.notArcs(20)) {
            due("full: most(" + a + ")", Nets.full().most(a), FlowLedger.BAD);
        }
    }

    private static void mostImpossible() {
        due("most(0)", Nets.impossible().most(0), FlowLedger.IMPOSSIBLE);
        FlowLedger x = round(20, -20);
        x.supply(7, 1);
        due("round at 0 in vain: most(0)", x.most(0), FlowLedger.IMPOSSIBLE);
    }

    private static void mostEndless() {
        FlowLedger x = Nets.endless();
        x.add(6, 7, 1, 1);
        due("in the circle: most(0)", x.most(0), FlowLedger.ENDLESS);
        due("apart from it: most(2)", x.most(2), FlowLedger.ENDLESS);
    }

    private static void slack() {
        for (int dearer = 1; dearer <= 40; dearer++) {
            FlowLedger x = Nets.sending(4);
            x.add(0, 1, -1, -20);
            x.add(0, 1, -1, dearer - 20);
            due("dearer by " + dearer + ": slack(1)", x.slack(1), dearer);
            x.change(1, 1, dearer - 20);
            due("and bounded: slack(1)", x.slack(1), dearer);
            x.change(0, 4, -20);
            due("the other just enough: slack(1)", x.slack(1), dearer);
        }
        FlowLedger y = Nets.sending(4);
        y.add(0, 1, 3, 5);
        y.add(0, 1, 3, 8);
        due("not all fits on the other: slack(1)", y.slack(1), 3);
        due("the cheaper one is full: slack(0)", y.slack(0), 40);
    }

    private static void slackFrom0To40() {
        due("0: slack(0)", round(20, -20).slack(0), 0);
        due("1: slack(0)", round(20, -19).slack(0), 1);
        due("39: slack(0)", round(20, 19).slack(0), 39);
        due("40: slack(0)", round(20, 20).slack(0), 40);
        FlowLedger x = new FlowLedger();
        x.add(0, 1, -1, 20);
        due("no way back at all: slack(0)", x.slack(0), 40);
        x.add(1, 2, -1, 1);
        x.add(2, 0, -1, 19);
        due("40: slack(0)", x.slack(0), 40);
        x.change(2, -1, 20);
        due("41 is no more than 40: slack(0)", x.slack(0), 40);
        x.change(2, -1, 18);
        due("39: slack(0)", x.slack(0), 39);
        due("the cost may get less than -20: slack(1)", x.slack(1), 39);
    }

    private static void slackStaysSolved() {
        for (int sum = 0; sum <= 40; sum++) {
            FlowLedger x = round(sum / 2, sum - sum / 2);
            due("round at " + sum + ": slack(0)", x.slack(0), sum);
            due("slack(1)", x.slack(1), sum);
        }
        FlowLedger y = round(20, -20);
        y.add(0, 2, -1, 3);
        due("beside a circle at 0: slack(2)", y.slack(2), 40);
        y.add(2, 1, -1, 20);
        due("part of a circle at 3: slack(2)", y.slack(2), 3);
        FlowLedger z = round(20, -20);
        z.supply(0, 4);
        z.supply(1, -4);
        due("at 0 with units that have to go: slack(0)", z.slack(0), 0);
        z.change(0, 30, 20);
        due("at 0, but bounded: slack(0)", z.slack(0), 40);
        due("the unbounded one: slack(1)", z.slack(1), 40);
    }

    private static void slackOfSomeFlow() {
        FlowLedger x = Nets.sending(4);
        x.add(0, 1, -1, 5);
        x.add(0, 1, -1, 5);
        due("as dear as the other, all may go: slack(1)", x.slack(1), 40);
        x.change(1, 3, 5);
        due("three may go, which fills it: slack(1)", x.slack(1), 40);
        x.change(1, 0, 20);
        due("capacity 0, all flows stay: slack(1)", x.slack(1), 40);

        // Four units of the first arc come round at 0; the fifth would come round at 4.
        FlowLedger y = new FlowLedger();
        y.add(0, 1, -1, 5);
        y.add(1, 0, 4, -5);
        y.add(1, 0, 4, -1);
        due("the flow with the most on it: slack(0)", y.slack(0), 4);
    }

    private static void slackOfNoArc() {
        for (int a : Nets.notArcs(2)) {
            due("slack(" + a + ")", Nets.tight().slack(a), FlowLedger.BAD);
            due("endless: slack(" + a + ")", Nets.endless().slack(a), FlowLedger.BAD);
        }
        for (int a : Nets.notArcs(1)) {
            due("impossible: slack(" + a + ")", Nets.impossible().slack(a), FlowLedger.BAD);
        }
        for (int a : Nets.notArcs(20)) {
            due("full: slack(" + a + ")", Nets.full().slack(a), FlowLedger.BAD);
        }
    }

    private static void slackImpossible() {
        due("slack(0)", Nets.impossible().slack(0), FlowLedger.IMPOSSIBLE);
        FlowLedger x = round(20, -20);
        x.supply(7, 1);
        due("round at 0 in vain: slack(0)", x.slack(0), FlowLedger.IMPOSSIBLE);
    }

    private static void slackEndless() {
        FlowLedger x = Nets.endless();
        x.add(6, 7, 1, 1);
        due("in the circle: slack(0)", x.slack(0), FlowLedger.ENDLESS);
        due("apart from it: slack(2)", x.slack(2), FlowLedger.ENDLESS);
    }
}
