/** Networks that several tests use. */
final class Networks {
    private Networks() {
    }

    static FlowNetwork withNodes(int nodes) {
        FlowNetwork x = new FlowNetwork();
        for (int node = 0; node < nodes; node++) {
            x.addNode();
        }
        return x;
    }

    /** The arcs are given as tail, head, capacity, tail, head, capacity ... */
    static FlowNetwork withArcs(int nodes, int... arcs) {
        FlowNetwork x = withNodes(nodes);
        for (int i = 0; i + 2 < arcs.length; i += 3) {
            x.addArc(arcs[i], arcs[i + 1], arcs[i + 2]);
        }
        return x;
    }

    /** The network of the document's first example, with the ends 0 and 3. */
    static FlowNetwork diamond() {
        FlowNetwork x = withArcs(4, 0, 1, 5, 0, 2, 3, 1, 3, 4, 2, 3, 4, 1, 2, 2);
        x.setEnds(0, 3);
        return x;
    }

    /** Arcs of the given capacities, one behind the other, with the first and last node as ends. */
    static FlowNetwork chain(int... capacities) {
        FlowNetwork x = withNodes(capacities.length + 1);
        for (int i = 0; i < capacities.length; i++) {
            x.addArc(i, i + 1, capacities[i]);
        }
        x.setEnds(0, capacities.length);
        return x;
    }
}
