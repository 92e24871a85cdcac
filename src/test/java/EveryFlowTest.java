import java.util.List;

/** The answers about flows and cuts, against all flows and cuts that small networks have. */
public final class EveryFlowTest {
    private static final int[][] PAIRS = {{0, 1}, {0, 2}, {1, 0}, {1, 2}, {2, 0}, {2, 1}};
    private static final int MOST_CAPACITY = 2;
    private static final int KINDS = PAIRS.length * (MOST_CAPACITY + 1);
    private static final Check CHECK = new Check("EveryFlowTest");

    private final EveryFlow all;
    private final int nodes;
    private final int arcs;
    private final FlowNetwork real;

    private EveryFlowTest(EveryFlow all, int nodes, int arcs, int before) {
        this.all = all;
        this.nodes = nodes;
        this.arcs = arcs;
        real = all.made(before);
    }

    public static void main(String[] args) {
        for (int arcs = 0; arcs <= 3; arcs++) {
            everyNetwork(arcs);
        }
        for (int run = 0; run < 400; run++) {
            someNetwork(new Numbers(40000 + run), 4, 5);
        }
        CHECK.end();
    }

    /** All networks of three nodes with so many arcs. */
    private static void everyNetwork(int arcs) {
        int count = 1;
        for (int arc = 0; arc < arcs; arc++) {
            count *= KINDS;
        }
        for (int number = 0; number < count && !CHECK.isWrong(); number++) {
            int[] tail = new int[arcs];
            int[] head = new int[arcs];
            int[] capacity = new int[arcs];
            int rest = number;
            for (int arc = 0; arc < arcs; arc++) {
                tail[arc] = PAIRS[rest % PAIRS.length][0];
                head[arc] = PAIRS[rest % PAIRS.length][1];
                capacity[arc] = rest / PAIRS.length % (MOST_CAPACITY + 1);
                rest /= KINDS;
            }
            for (int[] ends : PAIRS) {
                EveryFlow all = new EveryFlow(3, tail, head, capacity, ends[0], ends[1]);
                new EveryFlowTest(all, 3, arcs, number % (MOST_CAPACITY + 1)).askAll();
            }
        }
    }

    private static void someNetwork(Numbers numbers, int nodes, int arcs) {
        int[] tail = new int[arcs];
        int[] head = new int[arcs];
        int[] capacity = new int[arcs];
        for (int arc = 0; arc < arcs; arc++) {
            tail[arc] = numbers.below(nodes);
            head[arc] = (tail[arc] + 1 + numbers.below(nodes - 1)) % nodes;
            capacity[arc] = numbers.below(MOST_CAPACITY + 1);
        }
        int source = numbers.below(nodes);
        int sink = (source + 1 + numbers.below(nodes - 1)) % nodes;
        EveryFlow all = new EveryFlow(nodes, tail, head, capacity, source, sink);
        new EveryFlowTest(all, nodes, arcs, numbers.below(4)).askAll();
    }

    private void due(String name, Object want, Check.Call call) {
        CHECK.due(name, want, call);
        if (CHECK.isWrong()) {
            System.out.println("the network is " + all);
            CHECK.end();
        }
    }

    private void askAll() {
        askMaximum();
        askCuts();
        List<int[]> flows = all.maximumFlows();
        for (int arc = 0; arc < arcs; arc++) {
            askFlows(flows, arc);
            askArc(arc);
        }
        // What has been asked has not changed what is answered.
        due("maximum, again", all.maximum(), real::maximum);
    }

    private void askMaximum() {
        int maximum = all.maximum();
        int leaving = all.leavingSource();
        due("maximum", maximum, real::maximum);
        due("utilization", leaving == 0 ? 0.0 : (double) maximum / leaving, real::utilization);
        for (int node = 0; node < nodes; node++) {
            int out = node;
            due("maximumWithout " + node, all.without(node).maximum(), () -> real.maximumWithout(out));
            for (int i = 1; i < nodes; i++) {
                int other = (node + i) % nodes;
                due("maximumBetween " + node + ", " + other, all.between(node, other).maximum(),
                        () -> real.maximumBetween(out, other));
            }
        }
    }

    private void askCuts() {
        List<Integer> cuts = all.minimumCuts();
        int inAll = -1;
        int inAny = 0;
        for (int cut : cuts) {
            inAll &= cut;
            inAny |= cut;
            due("cutCapacity " + cut, all.maximum(), () -> real.cutCapacity(cut));
        }
        due("smallestCut", inAll, real::smallestCut);
        due("greatestCut", inAny, real::greatestCut);
        due("findCuts", cuts.size(), real::findCuts);
        for (int i = 0; i < cuts.size(); i++) {
            int index = i;
            due("cut " + i, cuts.get(i), () -> real.cut(index));
        }
        due("no more cuts", Check.INDEX, () -> real.cut(cuts.size()));
    }

    private void askFlows(List<int[]> flows, int arc) {
        int least = Integer.MAX_VALUE;
        int greatest = Integer.MIN_VALUE;
        for (int[] flow : flows) {
            least = Math.min(least, flow[arc]);
            greatest = Math.max(greatest, flow[arc]);
        }
        due("leastFlow " + arc, least, () -> real.leastFlow(arc));
        due("greatestFlow " + arc, greatest, () -> real.greatestFlow(arc));
    }

    private void askArc(int arc) {
        due("isBottleneck " + arc, all.isBottleneck(arc), () -> real.isBottleneck(arc));
        due("isLimiting " + arc, all.isLimiting(arc), () -> real.isLimiting(arc));
        due("headroom " + arc, all.headroom(arc), () -> real.headroom(arc));
        for (int other = 0; other <= MOST_CAPACITY + 1; other++) {
            int capacity = other;
            due("maximumWith " + arc + ", " + other, all.with(arc, other).maximum(),
                    () -> real.maximumWith(arc, capacity));
        }
    }
}
