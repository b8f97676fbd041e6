/** Networks that several tests begin with, and numbers that are out of their bounds. */
final class Nets {
    static final int LOWEST = Integer.MIN_VALUE;
    static final int HIGHEST = Integer.MAX_VALUE;

    /** Beside the next ones beyond the bounds: numbers that fall within them if bits get lost. */
    static final int[] NOT_NODES = {
        -1, 8, -8, 9, 16, 32, 256, -256, 65536, 1 << 30, LOWEST, LOWEST + 1, HIGHEST,
    };
    static final int[] NOT_CAPACITIES = {
        -2, 31, -30, 32, 255, 256, 65535, 65536, 1 << 30, LOWEST, LOWEST + 1, HIGHEST,
    };
    static final int[] NOT_COSTS = {
        -21, 21, 236, 256, -256, 65516, 65536, 1 << 30, LOWEST, LOWEST + 1, HIGHEST,
    };
    static final int[] NOT_SUPPLIES = {
        -31, 31, 226, 256, -256, 65506, 65536, 1 << 30, LOWEST, LOWEST + 1, HIGHEST,
    };

    private Nets() {
    }

    /** Numbers that no arc has in a network with that many. */
    static int[] notArcs(int count) {
        return new int[] {
            -1, count, count + 1, 20, 21, -20, 256, -256, 65536, 1 << 30, LOWEST, LOWEST + 1, HIGHEST,
        };
    }

    /** Node 0 has the units and node 1 needs them; there are no arcs yet. */
    static FlowLedger sending(int units) {
        FlowLedger x = new FlowLedger();
        x.supply(0, units);
        x.supply(1, -units);
        return x;
    }

    /** Solved at 20, and whatever gets another capacity, cost or supply shows. */
    static FlowLedger tight() {
        FlowLedger x = sending(4);
        x.add(0, 1, 4, 5);
        x.add(0, 1, 4, 7);
        return x;
    }

    /** Its only arc has a capacity that is one too small. */
    static FlowLedger impossible() {
        FlowLedger x = sending(5);
        x.add(0, 1, 4, 1);
        return x;
    }

    /** Its two arcs are unbounded and lead round at -1. */
    static FlowLedger endless() {
        FlowLedger x = new FlowLedger();
        x.add(0, 1, -1, 3);
        x.add(1, 0, -1, -4);
        return x;
    }

    /** Solved, with 20 arcs of capacity 1 from 0 to 1 for 20 units: arc a at cost a. */
    static FlowLedger full() {
        FlowLedger x = sending(20);
        for (int a = 0; a < 20; a++) {
            x.add(0, 1, 1, a);
        }
        return x;
    }

    /** 60 units want to get from node 0 to node 1, between which there is no arc yet. */
    static FlowLedger waiting() {
        FlowLedger x = new FlowLedger();
        x.supply(2, 30);
        x.supply(3, 30);
        x.supply(4, -30);
        x.supply(5, -30);
        x.add(2, 0, -1, 0);
        x.add(3, 0, -1, 0);
        x.add(1, 4, -1, 0);
        x.add(1, 5, -1, 0);
        return x;
    }

    /** Unbounded arcs of cost 1 lead round through all eight nodes: arc v from node v. */
    static FlowLedger ring() {
        FlowLedger x = new FlowLedger();
        for (int v = 0; v < 8; v++) {
            x.add(v, (v + 1) % 8, -1, 1);
        }
        return x;
    }

    /** Seven arcs of cost 20 lead on from node 0 to node 7: arc v from node v. */
    static FlowLedger chain(int capacity) {
        FlowLedger x = new FlowLedger();
        for (int v = 0; v < 7; v++) {
            x.add(v, v + 1, capacity, 20);
        }
        return x;
    }

    /** The ways 0-4 and 1-5 are open only if no unit goes 0-5, which is cheaper and comes first. */
    static FlowLedger crossing() {
        FlowLedger x = new FlowLedger();
        x.supply(0, 1);
        x.supply(1, 1);
        x.supply(4, -1);
        x.supply(5, -1);
        x.add(0, 5, 1, -20);
        x.add(0, 4, 1, 20);
        x.add(1, 5, 1, 20);
        return x;
    }

    /** 19 arcs of capacity 30 lead back at -20 where the unbounded arc 19 leads on at that cost. */
    static FlowLedger wideWayBack(int cost) {
        FlowLedger x = new FlowLedger();
        for (int a = 0; a < 19; a++) {
            x.add(1, 0, 30, -20);
        }
        x.add(0, 1, -1, cost);
        return x;
    }
}
