/** Each promise of the document with ordinary inputs, one call after the other. */
public final class PromisesTest {
    private static final Due DUE = new Due();

    public static void main(String[] args) {
        newObject();
        add();
        change();
        supply();
        clear();
        arcs();
        state();
        cost();
        amount();
        bottleneck();
        marginal();
        least();
        most();
        slack();
        askingChangesNothing();
        DUE.end();
    }

    private static void due(String call, long got, long want) {
        DUE.due(call, got, want);
    }

    private static void due(String call, boolean got, boolean want) {
        DUE.due(call, got, want);
    }

    private static void newObject() {
        FlowLedger x = new FlowLedger();
        due("1: arcs", x.arcs(), 0);
        due("1: state", x.state(), 0);
        due("1: cost", x.cost(), 0);
        due("1: amount", x.amount(), 0);
        due("1: bottleneck", x.bottleneck(), 0);
        due("1: marginal(0, 1)", x.marginal(0, 1), FlowLedger.NONE);
        due("1: least(0)", x.least(0), FlowLedger.BAD);
        x.add(0, 1, 1, 1);
        x.supply(0, 1);
        FlowLedger y = new FlowLedger();
        due("1: arcs of another", y.arcs(), 0);
        due("1: state of another", y.state(), 0);
        due("1: state of the first", x.state(), FlowLedger.IMPOSSIBLE);
    }

    private static void add() {
        FlowLedger x = Nets.sending(4);
        due("2: first", x.add(0, 1, 3, 5), 0);
        due("2: beside it", x.add(0, 1, 3, 6), 1);
        due("2: against it", x.add(1, 0, 30, 20), 2);
        due("2: capacities count", x.cost(), 21);
        due("2: capacity 0", x.add(0, 1, 0, -20), 3);
        due("2: which is of no use", x.cost(), 21);
        due("2: unbounded", x.add(0, 1, -1, 1), 4);
        due("2: which takes all", x.cost(), 4);
        due("2: nodes 7 and 0", x.add(7, 0, 30, -20), 5);
        due("2: nodes 0 and 7", x.add(0, 7, 30, 20), 6);
        for (int a = 7; a < 20; a++) {
            due("2: arc " + a, x.add(2, 3, 1, 1), a);
        }
        due("2: full", x.add(0, 1, 1, 1), FlowLedger.FULL);
        due("2: full for an unbounded one", x.add(0, 1, -1, -20), FlowLedger.FULL);
        due("2: bad before full", x.add(0, 0, 1, 1), FlowLedger.BAD);
        due("2: bad cost before full", x.add(0, 1, 1, 21), FlowLedger.BAD);
        due("2: still 20", x.arcs(), 20);
        due("2: nothing has changed", x.cost(), 4);
    }

    private static void change() {
        FlowLedger x = Nets.sending(4);
        x.add(0, 1, 4, 5);
        x.add(0, 1, 4, 7);
        due("3: another cost", x.change(0, 4, 9), true);
        due("3: the other arc is cheaper now", x.cost(), 28);
        due("3: another capacity", x.change(1, 1, 7), true);
        due("3: the first has the rest", x.cost(), 34);
        due("3: capacity 0", x.change(0, 0, -20), true);
        due("3: too little", x.state(), FlowLedger.IMPOSSIBLE);
        due("3: unbounded", x.change(1, -1, 20), true);
        due("3: enough", x.cost(), 80);
        due("3: the greatest capacity, the least cost", x.change(1, 30, -20), true);
        due("3: cost", x.cost(), -80);
        due("3: arcs", x.arcs(), 2);
    }

    private static void supply() {
        FlowLedger x = new FlowLedger();
        x.add(7, 0, -1, 2);
        due("4: supply(7, 30)", x.supply(7, 30), true);
        due("4: supply(0, -30)", x.supply(0, -30), true);
        due("4: cost", x.cost(), 60);
        due("4: another, not one more", x.supply(7, 3), true);
        due("4: another demand", x.supply(0, -3), true);
        due("4: cost", x.cost(), 6);
        due("4: none", x.supply(7, 0), true);
        due("4: state", x.state(), FlowLedger.IMPOSSIBLE);
        due("4: none there either", x.supply(0, 0), true);
        due("4: state", x.state(), 0);
    }

    private static void clear() {
        FlowLedger x = new FlowLedger();
        for (int v = 0; v < 8; v++) {
            x.supply(v, v + 1);
        }
        for (int a = 0; a < 20; a++) {
            x.add(a % 7, 7, -1, a);
        }
        x.clear();
        due("5: arcs", x.arcs(), 0);
        due("5: state", x.state(), 0);
        due("5: amount", x.amount(), 0);
        due("5: bottleneck", x.bottleneck(), 0);
        due("5: no arc", x.least(0), FlowLedger.BAD);
        due("5: no arc to change", x.change(0, 1, 1), false);
        due("5: no way", x.marginal(0, 7), FlowLedger.NONE);
        due("5: numbers begin anew", x.add(1, 2, 5, 5), 0);
        due("5: the new arc", x.marginal(1, 2), 5);
        x.clear();
        x.clear();
        due("5: twice", x.arcs(), 0);
    }

    private static void arcs() {
        FlowLedger x = new FlowLedger();
        for (int a = 0; a < 20; a++) {
            due("6: arcs", x.arcs(), a);
            x.add(0, 1, 1, 1);
            x.add(0, 0, 1, 1);
        }
        due("6: arcs", x.arcs(), 20);
        x.add(0, 1, 1, 1);
        due("6: arcs when full", x.arcs(), 20);
    }

    private static void state() {
        FlowLedger x = Nets.sending(5);
        due("7: no way", x.state(), FlowLedger.IMPOSSIBLE);
        x.add(1, 0, -1, 1);
        due("7: only the wrong way", x.state(), FlowLedger.IMPOSSIBLE);
        x.add(0, 1, 4, 1);
        due("7: one too little", x.state(), FlowLedger.IMPOSSIBLE);
        x.add(0, 1, 1, 1);
        due("7: just enough", x.state(), 0);
        x.supply(0, 4);
        due("7: more demand than supply", x.state(), FlowLedger.IMPOSSIBLE);
        x.supply(1, -4);
        x.supply(2, 1);
        due("7: more supply than demand", x.state(), FlowLedger.IMPOSSIBLE);
        x.supply(2, 0);
        due("7: solved", x.state(), 0);
        due("7: an arc apart", x.add(5, 6, -1, -20), 3);
        due("7: no circle yet", x.state(), 0);
        due("7: a circle apart at 0", x.add(6, 5, -1, 20), 4);
        due("7: at 0 it is solved", x.state(), 0);
        x.change(4, -1, 19);
        due("7: below 0 it is endless", x.state(), FlowLedger.ENDLESS);
        x.supply(0, 6);
        x.supply(1, -6);
        due("7: impossible goes first", x.state(), FlowLedger.IMPOSSIBLE);
        x.supply(0, 0);
        x.supply(1, 0);
        x.change(4, 30, 19);
        due("7: a bounded circle is solved", x.state(), 0);
    }

    private static void cost() {
        FlowLedger x = Nets.sending(3);
        x.add(0, 2, 2, 1);
        x.add(0, 3, 2, 4);
        x.add(2, 3, 2, 1);
        x.add(2, 1, 2, 5);
        x.add(3, 1, 2, 1);
        // Two units go 0-2-3-1 at 3 each; the third makes one of them go 2-1 and takes 0-3-1.
        due("8: rerouted", x.cost(), 3 + 6 + 5);
        x.change(4, 0, 1);
        due("8: impossible", x.cost(), FlowLedger.IMPOSSIBLE);
        due("8: endless", Nets.endless().cost(), FlowLedger.ENDLESS);

        FlowLedger y = new FlowLedger();
        y.add(0, 1, 30, -20);
        y.add(1, 2, 29, 5);
        y.add(2, 0, -1, 5);
        due("8: round a bounded circle", y.cost(), -290);
        y.change(1, 29, 15);
        due("8: round at 0", y.cost(), 0);

        FlowLedger z = new FlowLedger();
        for (int a = 0; a < 20; a++) {
            z.add(a % 2, 1 - a % 2, 30, -20);
        }
        due("8: the least of all", z.cost(), -12000);
        z.supply(0, 30);
        z.supply(1, -30);
        due("8: one arc less", z.cost(), -11400);
    }

    private static void amount() {
        FlowLedger x = new FlowLedger();
        x.supply(0, 10);
        due("9: nowhere to go", x.amount(), 0);
        x.supply(1, -4);
        due("9: no way", x.amount(), 0);
        x.add(0, 2, 3, 20);
        due("9: a node without a demand keeps none", x.amount(), 0);
        x.add(2, 1, -1, -20);
        due("9: an arc's capacity", x.amount(), 3);
        x.change(0, -1, 20);
        due("9: a demand", x.amount(), 4);
        x.supply(1, -30);
        due("9: a supply", x.amount(), 10);
        x.add(1, 2, -1, 0);
        due("9: whatever it costs", x.amount(), 10);
        x.supply(2, -30);
        due("9: demands on the way", x.amount(), 10);
        x.supply(2, 25);
        due("9: supplies on the way", x.amount(), 30);

        FlowLedger y = new FlowLedger();
        for (int v = 0; v < 4; v++) {
            y.supply(v, 30);
            y.supply(v + 4, -30);
            y.add(v, 7 - v, -1, 0);
        }
        due("9: the greatest of all", y.amount(), 120);
        due("9: taken back", Nets.crossing().amount(), 2);
    }

    private static void bottleneck() {
        FlowLedger x = new FlowLedger();
        x.supply(0, 10);
        x.supply(2, -10);
        x.add(0, 1, 5, 0);
        x.add(1, 2, 5, 0);
        due("10: the smallest of two", x.bottleneck(), 1);
        x.change(0, 6, 0);
        due("10: the second arc", x.bottleneck(), 3);
        x.change(0, -1, 0);
        due("10: no unbounded arc leaves it", x.bottleneck(), 3);
        x.change(1, -1, 0);
        due("10: none is smaller", x.bottleneck(), 0);
        x.supply(2, -9);
        due("10: a demand", x.bottleneck(), 7);
        x.supply(2, -30);
        due("10: a supply", x.bottleneck(), 0);
        x.supply(7, 1);
        due("10: a supply without a way", x.bottleneck(), 128);
        x.add(7, 6, -1, 0);
        due("10: nor from the next node", x.bottleneck(), 192);
        x.add(6, 2, -1, 0);
        due("10: both supplies get there", x.bottleneck(), 0);
        x.add(3, 4, -1, 0);
        x.supply(4, -30);
        due("10: a demand without a way", x.bottleneck(), 0);
        due("10: taken back", Nets.crossing().bottleneck(), 0);
    }

    private static void marginal() {
        FlowLedger x = Nets.sending(30);
        x.add(0, 1, -1, 7);
        due("11: beyond 30", x.marginal(0, 1), 7);
        due("11: one less", x.marginal(1, 0), -7);
        due("11: the same node", x.marginal(0, 0), 0);
        due("11: the same node 7", x.marginal(7, 7), 0);
        due("11: no way", x.marginal(0, 7), FlowLedger.NONE);
        due("11: no way back", x.marginal(7, 0), FlowLedger.NONE);
        x.change(0, 30, 7);
        due("11: no room", x.marginal(0, 1), FlowLedger.NONE);
        x.add(0, 2, 1, 20);
        x.add(2, 1, 1, 20);
        due("11: a way round", x.marginal(0, 1), 40);
        due("11: a part of it", x.marginal(0, 2), 20);
        due("11: taking back from the full arc", x.marginal(1, 2), 13);
        due("11: the cost is as it was", x.cost(), 210);

        FlowLedger y = new FlowLedger();
        y.add(0, 1, -1, 3);
        due("11: nothing to take back", y.marginal(1, 0), FlowLedger.NONE);
        y.add(1, 0, 7, -4);
        due("11: beside a full circle", y.marginal(0, 1), 3);
        due("11: against it", y.marginal(1, 0), -3);

        due("11: seven arcs on", Nets.chain(1).marginal(0, 7), 140);
    }

    private static void least() {
        FlowLedger x = Nets.sending(4);
        x.add(0, 1, 3, 5);
        x.add(0, 1, 3, 5);
        due("12: what the other leaves", x.least(0), 1);
        due("12: what the first leaves", x.least(1), 1);
        x.change(1, -1, 5);
        due("12: the other takes all", x.least(0), 0);
        due("12: the first is too small", x.least(1), 1);
        x.change(0, 3, 4);
        due("12: the cheaper one is full", x.least(0), 3);
        x.add(1, 0, -1, -5);
        // The circle of arcs 1 and 2 costs 0, the one of arcs 0 and 2 less: arc 0 stays full.
        due("12: in a circle at 0 the unit that has to go", x.least(1), 1);
        due("12: in a circle at 0 none has to come back", x.least(2), 0);
        due("12: still full", x.least(0), 3);
    }

    private static void most() {
        FlowLedger x = Nets.sending(4);
        x.add(0, 1, 3, 5);
        x.add(0, 1, -1, 5);
        due("13: its capacity", x.most(0), 3);
        due("13: all there is", x.most(1), 4);
        x.change(0, 3, 6);
        due("13: the dearer one", x.most(0), 0);
        x.add(1, 0, 7, -5);
        due("13: round a bounded circle", x.most(1), 11);
        due("13: the bounded arc of it", x.most(2), 7);
        x.change(2, -1, -5);
        due("13: any number", x.most(1), FlowLedger.NONE);
        due("13: any number from 0 on", x.most(2), FlowLedger.NONE);
        due("13: from 4 on", x.least(1), 4);
        due("13: not in that circle", x.most(0), 0);
        x.change(2, -1, -4);
        due("13: a circle above 0", x.most(1), 4);
        due("13: a circle above 0, the other arc", x.most(2), 0);

        FlowLedger y = Nets.wideWayBack(20);
        due("13: the most of all", y.most(19), 570);
        due("13: the least with it", y.least(19), 0);
        y.change(19, -1, 19);
        due("13: all of it", y.least(19), 570);
    }

    private static void slack() {
        FlowLedger x = Nets.sending(4);
        x.add(0, 1, -1, 5);
        x.add(0, 1, 30, 8);
        due("14: as dear as the other", x.slack(1), 3);
        due("14: already all", x.slack(0), 40);
        x.change(1, 30, 5);
        due("14: at a tie it may take all", x.slack(1), 40);
        x.change(1, 0, 8);
        due("14: no capacity", x.slack(1), 40);
        x.change(1, 3, 5);
        due("14: full at a tie", x.slack(1), 40);
        x.change(1, 3, 6);
        due("14: one", x.slack(1), 1);

        FlowLedger y = new FlowLedger();
        y.add(0, 1, -1, 5);
        y.add(1, 0, -1, -2);
        due("14: until it is endless", y.slack(0), 3);
        due("14: the other until it is endless", y.slack(1), 3);
        y.change(1, 4, -2);
        due("14: until it is filled", y.slack(0), 3);
        y.change(1, 4, -5);
        due("14: at a circle of 0 until all is filled", y.slack(0), 40);
        y.change(1, -1, -5);
        due("14: at an unbounded circle of 0", y.slack(0), 0);
        due("14: at an unbounded circle of 0, the other", y.slack(1), 0);
        y.add(2, 3, -1, 1);
        due("14: leads nowhere", y.slack(2), 40);

        // At the most of arc 0 the bounded way back is full, and the next one costs 4 more.
        FlowLedger z = new FlowLedger();
        z.add(0, 1, -1, 5);
        z.add(1, 0, 4, -5);
        z.add(1, 0, 4, -1);
        due("14: beyond the tie", z.slack(0), 4);
    }

    private static void askingChangesNothing() {
        FlowLedger x = Nets.sending(4);
        x.add(0, 1, 3, 5);
        x.add(0, 1, -1, 6);
        for (int turn = 0; turn < 60; turn++) {
            due("cost " + turn, x.cost(), 21);
            due("slack " + turn, x.slack(1), 1);
            due("amount " + turn, x.amount(), 4);
            due("most " + turn, x.most(0), 3);
            due("marginal " + turn, x.marginal(0, 1), 6);
            due("bottleneck " + turn, x.bottleneck(), 0);
            due("least " + turn, x.least(1), 1);
            due("state " + turn, x.state(), 0);
        }
    }
}
