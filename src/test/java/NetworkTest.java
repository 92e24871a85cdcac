/** Promises 1 to 9: a new object, nodes, arcs, capacities and ends. */
public final class NetworkTest {
    private static final Check CHECK = new Check("NetworkTest");
    private static final int LOWEST = Integer.MIN_VALUE;
    private static final int HIGHEST = Integer.MAX_VALUE;

    public static void main(String[] args) {
        newObject();
        addNode();
        addArc();
        addArcRefuses();
        addArcKeepsTheMaximum();
        setCapacity();
        setCapacityRepairsTheFlow();
        scale();
        scaleRounds();
        scaleRefuses();
        setEnds();
        counts();
        capacity();
        CHECK.end();
    }

    private static void newObject() {
        FlowNetwork x = new FlowNetwork();
        CHECK.due("new nodeCount", 0, x::nodeCount);
        CHECK.due("new arcCount", 0, x::arcCount);
        CHECK.due("new maximum", Check.STATE, x::maximum);
        CHECK.due("new cut", Check.INDEX, () -> x.cut(0));
        CHECK.due("new pop", Check.STATE, x::pop);
        // 37, then 0, 0, 0, -1, -1, each behind a product with 31.
        CHECK.due("new digest", 37L * 31 * 31 * 31 * 31 * 31 - 31 - 1, x::digest);
        FlowNetwork y = new FlowNetwork();
        x.addNode();
        CHECK.due("another object", 0, y::nodeCount);
    }

    private static void addNode() {
        FlowNetwork x = new FlowNetwork();
        for (int node = 0; node < 24; node++) {
            CHECK.due("addNode", node, x::addNode);
        }
        CHECK.due("addNode 25th", Check.STATE, x::addNode);
        CHECK.due("addNode 25th changes nothing", 24, x::nodeCount);
    }

    private static void addArc() {
        FlowNetwork x = Networks.withNodes(3);
        CHECK.due("addArc", 0, () -> x.addArc(0, 1, 0));
        CHECK.due("addArc greatest", 1, () -> x.addArc(0, 1, 1000000));
        CHECK.due("addArc back", 2, () -> x.addArc(1, 0, 7));
        for (int arc = 3; arc < 80; arc++) {
            int number = arc;
            CHECK.due("addArc", number, () -> x.addArc(2, 1, number));
        }
        CHECK.due("addArc 81st", Check.STATE, () -> x.addArc(0, 1, 1));
        CHECK.due("addArc 81st same", Check.ARGUMENT, () -> x.addArc(0, 0, 1));
        CHECK.due("addArc 81st capacity", Check.ARGUMENT, () -> x.addArc(0, 1, -1));
        CHECK.due("addArc 81st node", Check.INDEX, () -> x.addArc(0, 3, 1));
        CHECK.due("addArc 81st changes nothing", 80, x::arcCount);
    }

    private static void addArcRefuses() {
        FlowNetwork x = Networks.withNodes(2);
        int[] none = {-1, 2, 24, LOWEST, HIGHEST};
        for (int node : none) {
            CHECK.due("addArc tail", Check.INDEX, () -> x.addArc(node, 1, 1));
            CHECK.due("addArc head", Check.INDEX, () -> x.addArc(0, node, 1));
            CHECK.due("addArc both", Check.INDEX, () -> x.addArc(node, node, -1));
        }
        int[] wrong = {-1, 1000001, LOWEST, HIGHEST};
        for (int capacity : wrong) {
            CHECK.due("addArc capacity", Check.ARGUMENT, () -> x.addArc(0, 1, capacity));
        }
        CHECK.due("addArc same", Check.ARGUMENT, () -> x.addArc(1, 1, 1));
        CHECK.due("addArc refused changes nothing", 0, x::arcCount);
    }

    private static void addArcKeepsTheMaximum() {
        FlowNetwork x = Networks.diamond();
        CHECK.due("maximum", 8, x::maximum);
        CHECK.due("addArc parallel", 5, () -> x.addArc(0, 2, 9));
        CHECK.due("maximum limited behind", 8, x::maximum);
        CHECK.due("addArc across", 6, () -> x.addArc(0, 3, 6));
        CHECK.due("maximum greater", 14, x::maximum);
    }

    private static void setCapacity() {
        FlowNetwork x = Networks.chain(4, 6);
        CHECK.due("setCapacity", 4, () -> x.setCapacity(0, 9));
        CHECK.due("setCapacity same", 9, () -> x.setCapacity(0, 9));
        CHECK.due("setCapacity greatest", 9, () -> x.setCapacity(0, 1000000));
        CHECK.due("setCapacity least", 1000000, () -> x.setCapacity(0, 0));
        CHECK.due("the other arc", 6, () -> x.capacity(1));
        int[] none = {-1, 2, 80, LOWEST, HIGHEST};
        for (int arc : none) {
            CHECK.due("setCapacity arc", Check.INDEX, () -> x.setCapacity(arc, 1));
            CHECK.due("setCapacity arc first", Check.INDEX, () -> x.setCapacity(arc, -1));
        }
        int[] wrong = {-1, 1000001, LOWEST, HIGHEST};
        for (int capacity : wrong) {
            CHECK.due("setCapacity wrong", Check.ARGUMENT, () -> x.setCapacity(1, capacity));
        }
        CHECK.due("refused changes nothing", 6, () -> x.capacity(1));
    }

    private static void setCapacityRepairsTheFlow() {
        FlowNetwork x = Networks.diamond();
        int[][] steps = {{0, 0, 3}, {0, 5, 8}, {3, 1, 5}, {2, 0, 1}, {3, 9, 5}, {4, 9, 8}, {1, 0, 5}};
        for (int[] step : steps) {
            x.setCapacity(step[0], step[1]);
            CHECK.due("maximum after setCapacity", step[2], x::maximum);
        }
    }

    private static void scale() {
        FlowNetwork x = Networks.withArcs(3, 0, 1, 10, 0, 2, 0, 1, 0, 10, 0, 1, 400, 1, 2, 7);
        CHECK.due("scale by 1", 0, () -> x.scale(0, 1.0));
        CHECK.due("scale", 2, () -> x.scale(0, 0.5));
        CHECK.due("scaled", 5, () -> x.capacity(0));
        CHECK.due("scaled 0", 0, () -> x.capacity(1));
        CHECK.due("arc to the node", 10, () -> x.capacity(2));
        CHECK.due("scaled third", 200, () -> x.capacity(3));
        CHECK.due("arc elsewhere", 7, () -> x.capacity(4));
        CHECK.due("scale without arcs", 0, () -> x.scale(2, 3.0));
        CHECK.due("scale by 1000", 2, () -> x.scale(0, 1000.0));
        CHECK.due("scaled by 1000", 5000, () -> x.capacity(0));
        CHECK.due("scale over the top", 2, () -> x.scale(0, 1000.0));
        CHECK.due("scaled over the top", 1000000, () -> x.capacity(0));
        CHECK.due("scale at the top", 0, () -> x.scale(0, 2.0));
        x.setEnds(0, 2);
        CHECK.due("maximum", 7, x::maximum);
        CHECK.due("scale to 0", 2, () -> x.scale(0, 0.0));
        CHECK.due("maximum of nothing", 0, x::maximum);
        CHECK.due("scale by -0", 2, () -> x.scale(1, -0.0));
        CHECK.due("scaled by -0", 0, () -> x.capacity(4));
    }

    private static void scaleRounds() {
        double tiny = Double.MIN_VALUE;
        double belowHalf = 0.49999999999999994;
        double[][] rows = {
            {1, 0.5, 0}, {3, 0.5, 2}, {5, 0.5, 2}, {7, 0.5, 4}, {1, belowHalf, 0}, {1, 0.6, 1},
            {3, 0.25, 1}, {10, 0.25, 2}, {14, 0.25, 4}, {9, 0.25, 2}, {11, 0.25, 3}, {1000000, tiny, 0},
            {999999, 1.0000005, 999999}, {999999, 1.000001, 1000000}, {1000000, 1.0000004, 1000000},
            {7, 0.1, 1}, {45, 0.1, 4}, {55, 0.1, 6}, {15, 0.1, 2}, {35, 0.1, 4}, {1000000, 1000, 1000000}
        };
        for (double[] row : rows) {
            FlowNetwork x = Networks.withArcs(2, 0, 1, (int) row[0]);
            CHECK.due("rint agrees", row[2], () -> Math.min(1000000.0, Math.rint(row[0] * row[1])));
            CHECK.due("scale counts", row[0] == row[2] ? 0 : 1, () -> x.scale(0, row[1]));
            CHECK.due(row[0] + " scaled by " + row[1], (int) row[2], () -> x.capacity(0));
        }
    }

    private static void scaleRefuses() {
        FlowNetwork x = Networks.withArcs(2, 0, 1, 10);
        double[] wrong = {
            -1.0, -Double.MIN_VALUE, 1000.0000000000001, 2000.5, Double.NaN,
            Double.POSITIVE_INFINITY, Double.NEGATIVE_INFINITY, Double.MAX_VALUE
        };
        for (double fraction : wrong) {
            CHECK.due("scale by " + fraction, Check.ARGUMENT, () -> x.scale(0, fraction));
            CHECK.due("scale node first", Check.INDEX, () -> x.scale(2, fraction));
        }
        int[] none = {-1, 2, 24, LOWEST, HIGHEST};
        for (int node : none) {
            CHECK.due("scale node", Check.INDEX, () -> x.scale(node, 0.5));
        }
        CHECK.due("refused changes nothing", 10, () -> x.capacity(0));
    }

    private static void setEnds() {
        FlowNetwork x = Networks.withArcs(3, 0, 1, 4, 1, 2, 3, 2, 0, 2);
        CHECK.due("setEnds same", Check.ARGUMENT, () -> x.setEnds(1, 1));
        CHECK.due("refused changes nothing", Check.STATE, x::maximum);
        CHECK.due("setEnds first", true, () -> x.setEnds(0, 2));
        CHECK.due("setEnds again", false, () -> x.setEnds(0, 2));
        CHECK.due("maximum", 3, x::maximum);
        CHECK.due("setEnds other sink", true, () -> x.setEnds(0, 1));
        CHECK.due("maximum other sink", 4, x::maximum);
        CHECK.due("setEnds other source", true, () -> x.setEnds(2, 1));
        CHECK.due("maximum other source", 2, x::maximum);
        CHECK.due("setEnds turned", true, () -> x.setEnds(1, 2));
        CHECK.due("maximum turned", 3, x::maximum);
        int[] none = {-1, 3, 24, LOWEST, HIGHEST};
        for (int node : none) {
            CHECK.due("setEnds source", Check.INDEX, () -> x.setEnds(node, 0));
            CHECK.due("setEnds sink", Check.INDEX, () -> x.setEnds(0, node));
            CHECK.due("setEnds both", Check.INDEX, () -> x.setEnds(node, node));
        }
        CHECK.due("setEnds same again", Check.ARGUMENT, () -> x.setEnds(0, 0));
        CHECK.due("refused keeps the ends", false, () -> x.setEnds(1, 2));
    }

    private static void counts() {
        FlowNetwork x = Networks.diamond();
        CHECK.due("nodeCount", 4, x::nodeCount);
        CHECK.due("arcCount", 5, x::arcCount);
        x.addNode();
        CHECK.due("nodeCount after", 5, x::nodeCount);
        CHECK.due("arcCount after", 5, x::arcCount);
        x.addArc(4, 0, 1);
        CHECK.due("nodeCount last", 5, x::nodeCount);
        CHECK.due("arcCount last", 6, x::arcCount);
    }

    private static void capacity() {
        FlowNetwork x = Networks.withArcs(2, 0, 1, 12, 1, 0, 1000000);
        CHECK.due("capacity", 12, () -> x.capacity(0));
        CHECK.due("capacity other", 1000000, () -> x.capacity(1));
        int[] none = {-1, 2, 80, LOWEST, HIGHEST};
        for (int arc : none) {
            CHECK.due("capacity none", Check.INDEX, () -> x.capacity(arc));
        }
    }
}
