/** Networks that several tests use. */
final class Networks {
    private static final int[] DIAMOND = {0, 1, 5, 0, 2, 3, 1, 3, 4, 2, 3, 4, 1, 2, 2};

    private Networks() {
    }

    static FlowNetwork withNodes(int nodes) {
        FlowNetwork x = new FlowNetwork();
        for (int node = 0; node < nodes; node++) {
            x.addNode();
        }
        return x;
    }

    /** The arcs are given as tail, head, capacity, tail, head, capacity ... */
    static FlowNetwork withArcs(int nodes, int... arcs) {
        FlowNetwork x = withNodes(nodes);
        for (int i = 0; i + 2 < arcs.length; i += 3) {
            x.addArc(arcs[i], arcs[i + 1], arcs[i + 2]);
        }
        return x;
    }

    /** The network of the document's first example, with no ends chosen. */
    static FlowNetwork endlessDiamond() {
        return withArcs(4, DIAMOND);
    }

    /** The network of the document's first example, with the ends 0 and 3. */
    static FlowNetwork diamond() {
        FlowNetwork x = endlessDiamond();
        x.setEnds(0, 3);
        return x;
    }

    /** A diamond that has been asked and changed, with kept cuts and levels of other contents. */
    static FlowNetwork usedDiamond() {
        FlowNetwork x = endlessDiamond();
        x.push();
        x.setEnds(0, 3);
        x.findCuts();
        x.push();
        x.setCapacity(2, 1);
        x.setEnds(1, 3);
        x.maximum();
        x.push();
        x.addArc(0, 3, 6);
        x.scale(2, 2.5);
        x.setEnds(0, 3);
        x.maximum();
        return x;
    }

    /** All that there can be: 24 nodes, 80 arcs, and 8 levels, which differ. */
    static FlowNetwork full() {
        FlowNetwork x = withNodes(24);
        for (int arc = 0; arc < 80; arc++) {
            int tail = arc % 24;
            int head = (tail + 1 + arc * 5 % 23) % 24;
            x.addArc(tail, head, 1 + arc * 12500);
        }
        x.setEnds(0, 23);
        for (int level = 0; level < 8; level++) {
            x.push();
            x.setCapacity(level * 10, 1000000 - level);
            x.setEnds(level, 23 - level);
        }
        return x;
    }

    /** Arcs of the given capacities, one behind the other, with the first and last node as ends. */
    static FlowNetwork chain(int... capacities) {
        FlowNetwork x = withNodes(capacities.length + 1);
        for (int i = 0; i < capacities.length; i++) {
            x.addArc(i, i + 1, capacities[i]);
        }
        x.setEnds(0, capacities.length);
        return x;
    }
}
