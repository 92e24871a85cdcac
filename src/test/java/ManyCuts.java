import java.util.ArrayList;
import java.util.List;

/**
 * Networks without any flow, of a wanted number of minimum cuts: an arc of capacity 1 forbids the
 * cuts that have its tail and not its head, and all others have the capacity 0. The source and the
 * sink have no arcs; the nodes between them are wired so that just so many sets of them are left.
 */
final class ManyCuts {
    private final List<int[]> arcs = new ArrayList<>();
    private int nodes;

    static ManyCuts of299() {
        return new ManyCuts().chain(3).chain(2).chain(2).top().chain(3).top().chain(1).top();
    }

    static ManyCuts of300() {
        return new ManyCuts().chain(4).chain(4).chain(3).chain(2);
    }

    static ManyCuts of301() {
        return of300().top();
    }

    /** So many nodes, each of which is in a cut only with the one before: that many sets and 1. */
    private ManyCuts chain(int length) {
        for (int i = 0; i < length; i++) {
            if (i > 0) {
                arcs.add(new int[] {nodes, nodes - 1});
            }
            nodes++;
        }
        return this;
    }

    /** A node that is in a cut only with all others: one set more. */
    private ManyCuts top() {
        for (int node = 0; node < nodes; node++) {
            arcs.add(new int[] {nodes, node});
        }
        nodes++;
        return this;
    }

    /** The source gets the number behind the others, and the sink the next; or all are turned round. */
    FlowNetwork made(boolean turned) {
        int last = nodes + 1;
        FlowNetwork x = Networks.withNodes(nodes + 2);
        for (int[] arc : arcs) {
            x.addArc(turned ? last - arc[0] : arc[0], turned ? last - arc[1] : arc[1], 1);
        }
        x.setEnds(turned ? last - nodes : nodes, turned ? 0 : last);
        return x;
    }

    /** All masks, found by looking at each set of nodes, in ascending order. */
    List<Integer> masks(boolean turned) {
        List<Integer> masks = new ArrayList<>();
        int last = nodes + 1;
        for (int mask = 0; mask < 1 << (nodes + 2); mask++) {
            int plain = turned ? Integer.reverse(mask) >>> (31 - last) : mask;
            if ((plain >> nodes) == 1 && isClosed(plain)) {
                masks.add(mask);
            }
        }
        return masks;
    }

    private boolean isClosed(int mask) {
        boolean closed = true;
        for (int[] arc : arcs) {
            closed &= (mask >> arc[0] & 1) == 0 || (mask >> arc[1] & 1) == 1;
        }
        return closed;
    }
}
