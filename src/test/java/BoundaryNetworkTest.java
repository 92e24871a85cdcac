import java.math.BigDecimal;
import java.math.RoundingMode;

/**
 * The boundary cases of promises 1 to 9, and of what the description says of nodes, arcs and
 * capacities: a test for each sentence that names one, on both sides of the boundary.
 */
public final class BoundaryNetworkTest {
    private static final Check CHECK = new Check("BoundaryNetworkTest");
    private static final Unchanged EMPTY = new Unchanged(CHECK, FlowNetwork::new);
    private static final Unchanged ONE_NODE = new Unchanged(CHECK, () -> Networks.withNodes(1));
    private static final Unchanged USED = new Unchanged(CHECK, Networks::usedDiamond);
    private static final Unchanged FULL = new Unchanged(CHECK, Networks::full);

    public static void main(String[] args) {
        nodesAreNumbered();
        arcsAreNumbered();
        arcsCanBeParallel();
        capacitiesAreFrom0To1000000();
        noEndsAtFirst();
        endsAreDifferent();
        useIsFor512Calls();
        newObject();
        addNodeThrowsWith24Nodes();
        addArcThrowsWithoutTheNode();
        addArcThrowsForOneNode();
        addArcThrowsForTheCapacity();
        addArcThrowsWith80Arcs();
        addArcThrowsWhatIsNamedFirst();
        setCapacityThrowsWithoutTheArc();
        setCapacityThrowsForTheCapacity();
        setCapacityThrowsWhatIsNamedFirst();
        setCapacityReturnsTheCapacityBefore();
        scaleRoundsToTheEvenOne();
        scaleStopsAt1000000();
        scaleMultipliesArcsThatLeave();
        scaleReturnsHowManyHaveChanged();
        scaleThrowsWithoutTheNode();
        scaleThrowsForTheFraction();
        scaleThrowsWhatIsNamedFirst();
        setEndsReturnsWhetherOther();
        setEndsThrowsWithoutTheNode();
        setEndsThrowsForOneNode();
        countsOfNodesAndArcs();
        capacityThrowsWithoutTheArc();
        CHECK.end();
    }

    private static void nodesAreNumbered() {
        CHECK.sentence("Nodes are numbered from 0 in the order of their creation; there are at most 24.");
        FlowNetwork x = new FlowNetwork();
        for (int node = 0; node < 24; node++) {
            CHECK.due("addNode", node, x::addNode);
            CHECK.due("nodeCount", node + 1, x::nodeCount);
        }
        CHECK.due("a 25th node", Check.STATE, x::addNode);
        CHECK.due("nodeCount", 24, x::nodeCount);
        CHECK.due("the last node is a source", true, () -> x.setEnds(23, 0));
        CHECK.due("the last node has an arc", 0, () -> x.addArc(23, 0, 4));
        CHECK.due("which carries", 4, x::maximum);
    }

    private static void arcsAreNumbered() {
        CHECK.sentence("Arcs are numbered from 0 in the order of their creation; there are at most 80.");
        FlowNetwork x = Networks.withNodes(24);
        for (int arc = 0; arc < 80; arc++) {
            int number = arc;
            CHECK.due("addArc", number, () -> x.addArc(number % 24, (number + 1) % 24, 1000 + number));
            CHECK.due("arcCount", number + 1, x::arcCount);
        }
        CHECK.due("an 81st arc", Check.STATE, () -> x.addArc(0, 1, 1));
        CHECK.due("arcCount", 80, x::arcCount);
        CHECK.due("capacity of the first", 1000, () -> x.capacity(0));
        CHECK.due("capacity of the last", 1079, () -> x.capacity(79));
    }

    private static void arcsCanBeParallel() {
        CHECK.sentence("Several arcs can have the same tail and the same head.");
        FlowNetwork x = Networks.withNodes(2);
        x.setEnds(0, 1);
        int sum = 0;
        for (int arc = 0; arc < 80; arc++) {
            int number = arc;
            sum += 1000000 - arc;
            CHECK.due("addArc", number, () -> x.addArc(0, 1, 1000000 - number));
            CHECK.due("maximum", sum, x::maximum);
        }
    }

    private static void capacitiesAreFrom0To1000000() {
        CHECK.sentence("It has a capacity from 0 to 1000000.");
        for (int capacity : Edges.CAPACITIES) {
            FlowNetwork x = Networks.withNodes(2);
            x.setEnds(0, 1);
            CHECK.due("addArc of " + capacity, 0, () -> x.addArc(0, 1, capacity));
            CHECK.due("capacity", capacity, () -> x.capacity(0));
            CHECK.due("maximum", capacity, x::maximum);
            CHECK.due("addArc of 5", 1, () -> x.addArc(0, 1, 5));
            CHECK.due("setCapacity to " + capacity, 5, () -> x.setCapacity(1, capacity));
            CHECK.due("capacity", capacity, () -> x.capacity(1));
            CHECK.due("maximum", 2 * capacity, x::maximum);
        }
        Unchanged two = new Unchanged(CHECK, () -> Networks.chain(7));
        for (int capacity : Edges.WRONG_CAPACITIES) {
            two.due("addArc of " + capacity, Check.ARGUMENT, x -> x.addArc(0, 1, capacity));
            two.due("setCapacity to " + capacity, Check.ARGUMENT, x -> x.setCapacity(0, capacity));
        }
    }

    private static void noEndsAtFirst() {
        CHECK.sentence("Two different nodes can be chosen as the source and the sink; at first none are chosen.");
        EMPTY.due("maximum without nodes", Check.STATE, x -> x.maximum());
        Unchanged two = new Unchanged(CHECK, () -> Networks.withArcs(2, 0, 1, 3));
        two.due("maximum", Check.STATE, x -> x.maximum());
        two.due("utilization", Check.STATE, x -> x.utilization());
        two.due("smallestCut", Check.STATE, x -> x.smallestCut());
        two.due("greatestCut", Check.STATE, x -> x.greatestCut());
        two.due("findCuts", Check.STATE, x -> x.findCuts());
        two.due("cutCapacity", Check.STATE, x -> x.cutCapacity(1));
        two.due("maximumWith", Check.STATE, x -> x.maximumWith(0, 1));
        two.due("maximumWithout", Check.STATE, x -> x.maximumWithout(0));
        two.due("leastFlow", Check.STATE, x -> x.leastFlow(0));
        two.due("greatestFlow", Check.STATE, x -> x.greatestFlow(0));
        two.due("isBottleneck", Check.STATE, x -> x.isBottleneck(0));
        two.due("isLimiting", Check.STATE, x -> x.isLimiting(0));
        two.due("headroom", Check.STATE, x -> x.headroom(0));
        FlowNetwork x = Networks.withArcs(2, 0, 1, 3);
        CHECK.due("setEnds", true, () -> x.setEnds(0, 1));
        CHECK.due("maximum then", 3, x::maximum);
    }

    private static void endsAreDifferent() {
        CHECK.sentence("Two different nodes can be chosen");
        FlowNetwork x = Networks.withNodes(24);
        for (int node = 0; node < 24; node++) {
            int same = node;
            int next = (node + 1) % 24;
            CHECK.due("the same " + same, Check.ARGUMENT, () -> x.setEnds(same, same));
            CHECK.due("the next " + same, true, () -> x.setEnds(same, next));
        }
    }

    private static void useIsFor512Calls() {
        CHECK.sentence("An object is used for at most 512 calls after it has been made.");
        FlowNetwork x = Networks.diamond();
        int made = 4 + 5 + 1;
        for (int call = made + 1; call < 511; call += 2) {
            // Arc 3 gets what is left of the 8 that leave the source when 4 have gone over arc 2.
            int capacity = call % 9;
            x.setCapacity(3, capacity);
            CHECK.due("call " + (call + 1), 4 + Math.min(capacity, 4), x::maximum);
        }
        x.setCapacity(3, 4);
        CHECK.due("call 512", 8, x::maximum);
    }

    private static void newObject() {
        CHECK.sentence("Creates a service without nodes, arcs and levels.");
        EMPTY.due("nodeCount", 0, x -> x.nodeCount());
        EMPTY.due("arcCount", 0, x -> x.arcCount());
        EMPTY.due("capacity", Check.INDEX, x -> x.capacity(0));
        EMPTY.due("setCapacity", Check.INDEX, x -> x.setCapacity(0, 1));
        EMPTY.due("addArc", Check.INDEX, x -> x.addArc(0, 1, 1));
        EMPTY.due("addArc for one node", Check.INDEX, x -> x.addArc(0, 0, 1));
        EMPTY.due("scale", Check.INDEX, x -> x.scale(0, 1.0));
        EMPTY.due("setEnds", Check.INDEX, x -> x.setEnds(0, 1));
        EMPTY.due("setEnds for one node", Check.INDEX, x -> x.setEnds(0, 0));
        EMPTY.due("maximumBetween", Check.INDEX, x -> x.maximumBetween(0, 1));
        EMPTY.due("cut", Check.INDEX, x -> x.cut(0));
        EMPTY.due("pop", Check.STATE, x -> x.pop());
        CHECK.due("the first node", 0, () -> new FlowNetwork().addNode());
        CHECK.due("the first level", 1, () -> new FlowNetwork().push());
        CHECK.due("the first arc", 0, () -> Networks.withNodes(2).addArc(1, 0, 1));
    }

    private static void addNodeThrowsWith24Nodes() {
        CHECK.sentence("addNode: Throws IllegalStateException if there are 24 nodes");
        CHECK.due("with 23 nodes", 23, () -> Networks.withNodes(23).addNode());
        new Unchanged(CHECK, () -> Networks.withNodes(24)).due("with 24 nodes", Check.STATE, x -> x.addNode());
        FULL.due("with 24 nodes and all else", Check.STATE, x -> x.addNode());
        FlowNetwork x = Networks.withNodes(23);
        x.push();
        x.addNode();
        x.pop();
        CHECK.due("pop takes no node away", Check.STATE, x::addNode);
    }

    private static void addArcThrowsWithoutTheNode() {
        CHECK.sentence("addArc: Throws IndexOutOfBoundsException if there is no such node");
        for (int nodes = 2; nodes <= 24; nodes += 11) {
            int last = nodes - 1;
            FlowNetwork x = Networks.withNodes(nodes);
            CHECK.due("to the last of " + nodes, 0, () -> x.addArc(0, last, 1));
            CHECK.due("from the last of " + nodes, 1, () -> x.addArc(last, 0, 1));
            for (int none : Edges.notBelow(nodes)) {
                CHECK.due("tail " + none, Check.INDEX, () -> x.addArc(none, 0, 1));
                CHECK.due("head " + none, Check.INDEX, () -> x.addArc(last, none, 1));
            }
            CHECK.due("refused arcs get no number", 2, () -> x.addArc(0, last, 1));
        }
        for (int none : Edges.notBelow(4)) {
            USED.due("tail " + none, Check.INDEX, x -> x.addArc(none, 0, 1));
            USED.due("head " + none, Check.INDEX, x -> x.addArc(0, none, 1));
        }
        FlowNetwork y = Networks.withNodes(2);
        CHECK.due("before its node", Check.INDEX, () -> y.addArc(0, 2, 1));
        y.addNode();
        CHECK.due("after its node", 0, () -> y.addArc(0, 2, 1));
    }

    private static void addArcThrowsForOneNode() {
        CHECK.sentence("addArc: Throws IllegalArgumentException if tail and head are the same");
        ONE_NODE.due("the only node", Check.ARGUMENT, x -> x.addArc(0, 0, 1));
        for (int node = 0; node < 4; node++) {
            int same = node;
            USED.due("node " + same, Check.ARGUMENT, x -> x.addArc(same, same, 1));
            USED.due("node " + same + " with 0", Check.ARGUMENT, x -> x.addArc(same, same, 0));
        }
        CHECK.due("the one beside it", 6, () -> Networks.usedDiamond().addArc(3, 2, 1));
    }

    private static void addArcThrowsForTheCapacity() {
        CHECK.sentence("addArc: Throws IllegalArgumentException if capacity is not 0 to 1000000");
        for (int capacity : Edges.WRONG_CAPACITIES) {
            USED.due("capacity " + capacity, Check.ARGUMENT, x -> x.addArc(0, 1, capacity));
        }
        for (int capacity : Edges.CAPACITIES) {
            CHECK.due("capacity " + capacity, 6, () -> Networks.usedDiamond().addArc(0, 1, capacity));
        }
    }

    private static FlowNetwork withParallelArcs(int arcs) {
        FlowNetwork x = Networks.withNodes(3);
        for (int arc = 0; arc < arcs; arc++) {
            x.addArc(0, 1 + arc % 2, arc);
        }
        x.setEnds(0, 2);
        return x;
    }

    private static void addArcThrowsWith80Arcs() {
        CHECK.sentence("addArc: Throws IllegalStateException if there are 80 arcs");
        CHECK.due("with 79 arcs", 79, () -> withParallelArcs(79).addArc(2, 0, 1));
        new Unchanged(CHECK, () -> withParallelArcs(80)).due("with 80 arcs", Check.STATE, x -> x.addArc(2, 0, 1));
        FULL.due("with 80 arcs and all else", Check.STATE, x -> x.addArc(0, 23, 1000000));
        FlowNetwork x = withParallelArcs(79);
        x.push();
        x.addArc(2, 0, 1);
        x.pop();
        CHECK.due("pop takes no arc away", Check.STATE, () -> x.addArc(2, 0, 1));
        CHECK.due("capacity of the 80th", 0, () -> x.capacity(79));
    }

    private static void addArcThrowsWhatIsNamedFirst() {
        CHECK.sentence("addArc: If several exceptions apply, the one that is named first is thrown.");
        USED.due("no node, for one node", Check.INDEX, x -> x.addArc(4, 4, 1));
        USED.due("no node, capacity", Check.INDEX, x -> x.addArc(0, 4, -1));
        USED.due("no node, for one node, capacity", Check.INDEX, x -> x.addArc(-1, -1, 1000001));
        USED.due("for one node, capacity", Check.ARGUMENT, x -> x.addArc(1, 1, -1));
        FULL.due("no tail, 80 arcs", Check.INDEX, x -> x.addArc(24, 0, 1));
        FULL.due("no head, 80 arcs", Check.INDEX, x -> x.addArc(0, -1, 1));
        FULL.due("no node, for one node, capacity, 80 arcs", Check.INDEX, x -> x.addArc(24, 24, -1));
        FULL.due("for one node, 80 arcs", Check.ARGUMENT, x -> x.addArc(23, 23, 1));
        FULL.due("capacity, 80 arcs", Check.ARGUMENT, x -> x.addArc(0, 1, 1000001));
    }

    private static void setCapacityThrowsWithoutTheArc() {
        CHECK.sentence("setCapacity: Throws IndexOutOfBoundsException if there is no such arc");
        for (int none : Edges.notBelow(0)) {
            ONE_NODE.due("arc " + none + " of none", Check.INDEX, x -> x.setCapacity(none, 1));
        }
        for (int none : Edges.notBelow(6)) {
            USED.due("arc " + none, Check.INDEX, x -> x.setCapacity(none, 1));
        }
        for (int none : Edges.notBelow(80)) {
            FULL.due("arc " + none, Check.INDEX, x -> x.setCapacity(none, 1));
        }
        CHECK.due("the first arc", 5, () -> Networks.usedDiamond().setCapacity(0, 9));
        CHECK.due("the last arc", 6, () -> Networks.usedDiamond().setCapacity(5, 9));
        CHECK.due("the last of 80", 1 + 79 * 12500, () -> Networks.full().setCapacity(79, 9));
    }

    private static void setCapacityThrowsForTheCapacity() {
        CHECK.sentence("setCapacity: Throws IllegalArgumentException if capacity is not 0 to 1000000");
        for (int capacity : Edges.WRONG_CAPACITIES) {
            USED.due("to " + capacity, Check.ARGUMENT, x -> x.setCapacity(0, capacity));
            FULL.due("to " + capacity, Check.ARGUMENT, x -> x.setCapacity(79, capacity));
        }
        FlowNetwork x = Networks.usedDiamond();
        int before = 5;
        for (int capacity : Edges.CAPACITIES) {
            CHECK.due("to " + capacity, before, () -> x.setCapacity(0, capacity));
            before = capacity;
        }
    }

    private static void setCapacityThrowsWhatIsNamedFirst() {
        CHECK.sentence("setCapacity: If several exceptions apply, the one that is named first is thrown.");
        for (int capacity : Edges.WRONG_CAPACITIES) {
            USED.due("no arc, to " + capacity, Check.INDEX, x -> x.setCapacity(6, capacity));
            EMPTY.due("no arc at all, to " + capacity, Check.INDEX, x -> x.setCapacity(0, capacity));
        }
    }

    private static void setCapacityReturnsTheCapacityBefore() {
        CHECK.sentence("setCapacity: Returns the capacity before.");
        FlowNetwork x = Networks.withArcs(2, 0, 1, 0);
        CHECK.due("0 to 0", 0, () -> x.setCapacity(0, 0));
        CHECK.due("0 to 1000000", 0, () -> x.setCapacity(0, 1000000));
        CHECK.due("1000000 to itself", 1000000, () -> x.setCapacity(0, 1000000));
        CHECK.due("1000000 to 0", 1000000, () -> x.setCapacity(0, 0));
        CHECK.due("and 0 again", 0, () -> x.capacity(0));
    }

    /** Decimals that are exact tell how the product of two doubles is to be rounded. */
    private static int scaled(int capacity, double fraction) {
        BigDecimal product = new BigDecimal(capacity * fraction);
        return product.setScale(0, RoundingMode.HALF_EVEN).min(new BigDecimal(1000000)).intValueExact();
    }

    private static void scaleAll(int[] capacities, double fraction) {
        FlowNetwork x = Networks.withNodes(2);
        int changed = 0;
        for (int capacity : capacities) {
            x.addArc(0, 1, capacity);
            changed += scaled(capacity, fraction) == capacity ? 0 : 1;
        }
        CHECK.due("scale by " + fraction, changed, () -> x.scale(0, fraction));
        for (int arc = 0; arc < capacities.length; arc++) {
            int number = arc;
            int want = scaled(capacities[arc], fraction);
            CHECK.due(capacities[arc] + " by " + fraction, want, () -> x.capacity(number));
        }
    }

    private static void scaleRoundsToTheEvenOne() {
        CHECK.sentence("scale: rounded to the nearest integer, of two equally near ones to the even one");
        int[] capacities = {
            0, 1, 2, 3, 4, 5, 6, 7, 9, 10, 11, 13, 15, 45, 55, 99, 999, 1000, 1001, 1207, 105263,
            333333, 499999, 500000, 500001, 666667, 999998, 999999, 1000000
        };
        double[] fractions = {
            0.0, -0.0, 0.1, 0.125, 0.25, 1.0 / 3.0, 0.49999999999999994, 0.5, 0.5000000000000001, 0.6,
            0.75, 0.999999, Math.nextDown(1.0), 1.0, Math.nextUp(1.0), 1.0000005, 1.5, 2.5, 3.5, 9.5,
            0.0000005, 0.0000015, 828.5, 999.5, Math.nextDown(1000.0), 1000.0, 5e-324, 1e-300
        };
        for (double fraction : fractions) {
            scaleAll(capacities, fraction);
        }
        int[][] halves = {{1, 0}, {3, 2}, {5, 2}, {7, 4}, {999997, 499998}, {999999, 500000}};
        for (int[] half : halves) {
            FlowNetwork x = Networks.withArcs(2, 0, 1, half[0]);
            CHECK.due("a half of " + half[0], 1, () -> x.scale(0, 0.5));
            CHECK.due("a half of " + half[0], half[1], () -> x.capacity(0));
        }
    }

    private static void scaleStopsAt1000000() {
        CHECK.sentence("scale: it is 1000000 if it would be greater");
        double[][] rows = {
            {1001, 999, 999999}, {105263, 9.5, 999998}, {1207, 828.5, 1000000}, {500000, 2, 1000000},
            {666667, 1.5, 1000000}, {9901, 101, 1000000}, {1000, 1000, 1000000}, {1001, 1000, 1000000},
            {1000000, 1000, 1000000}, {999999, 1.0000005, 999999}, {999999, 1.000001, 1000000}
        };
        for (double[] row : rows) {
            FlowNetwork x = Networks.withArcs(2, 0, 1, (int) row[0]);
            x.setEnds(0, 1);
            CHECK.due(row[0] + " by " + row[1], row[0] == row[2] ? 0 : 1, () -> x.scale(0, row[1]));
            CHECK.due(row[0] + " by " + row[1], (int) row[2], () -> x.capacity(0));
            CHECK.due("maximum", (int) row[2], x::maximum);
        }
    }

    private static void scaleMultipliesArcsThatLeave() {
        CHECK.sentence("scale: Multiplies the capacities of all arcs that leave a node");
        FlowNetwork x = Networks.withArcs(3, 0, 1, 4, 1, 0, 4, 1, 2, 4, 2, 1, 4, 0, 2, 4, 1, 2, 6);
        CHECK.due("node 1", 3, () -> x.scale(1, 0.5));
        int[] want = {4, 2, 2, 4, 4, 3};
        for (int arc = 0; arc < want.length; arc++) {
            int number = arc;
            CHECK.due("capacity " + arc, want[arc], () -> x.capacity(number));
        }
        x.addNode();
        CHECK.due("a node without arcs", 0, () -> x.scale(3, 0.0));
        x.addArc(0, 3, 8);
        CHECK.due("a node that none leaves", 0, () -> x.scale(3, 0.0));
        CHECK.due("the arc to it", 8, () -> x.capacity(6));
    }

    private static void scaleReturnsHowManyHaveChanged() {
        CHECK.sentence("scale: Returns how many capacities have changed.");
        FlowNetwork x = Networks.withNodes(2);
        for (int arc = 0; arc < 80; arc++) {
            x.addArc(0, 1, 1000000 - arc);
        }
        CHECK.due("by 1", 0, () -> x.scale(0, 1.0));
        CHECK.due("all but the one at the top", 79, () -> x.scale(0, 2.0));
        CHECK.due("none", 0, () -> x.scale(0, 1000.0));
        CHECK.due("all", 80, () -> x.scale(0, 0.0));
        CHECK.due("none again", 0, () -> x.scale(0, 1000.0));
        FlowNetwork y = Networks.withArcs(2, 0, 1, 1, 0, 1, 2, 0, 1, 3, 0, 1, 0);
        CHECK.due("what is rounded back has not changed", 1, () -> y.scale(0, 1.2));
        CHECK.due("capacity", 4, () -> y.capacity(2));
    }

    private static void scaleThrowsWithoutTheNode() {
        CHECK.sentence("scale: Throws IndexOutOfBoundsException if there is no such node");
        for (int none : Edges.notBelow(0)) {
            EMPTY.due("node " + none + " of none", Check.INDEX, x -> x.scale(none, 0.5));
        }
        for (int none : Edges.notBelow(4)) {
            USED.due("node " + none, Check.INDEX, x -> x.scale(none, 0.5));
        }
        for (int none : Edges.notBelow(24)) {
            FULL.due("node " + none, Check.INDEX, x -> x.scale(none, 0.5));
        }
        CHECK.due("the first node", 3, () -> Networks.usedDiamond().scale(0, 0.5));
        CHECK.due("the last node", 0, () -> Networks.usedDiamond().scale(3, 0.5));
        CHECK.due("the last of 24", 3, () -> Networks.full().scale(23, 0.5));
    }

    private static void scaleThrowsForTheFraction() {
        CHECK.sentence("scale: Throws IllegalArgumentException if fraction is not from 0 to 1000");
        for (double fraction : Edges.WRONG_FRACTIONS) {
            USED.due("by " + fraction, Check.ARGUMENT, x -> x.scale(0, fraction));
            USED.due("no arcs, by " + fraction, Check.ARGUMENT, x -> x.scale(3, fraction));
        }
        int[] changed = {3, 3, 3, 0, 3, 3};
        int[] capacity = {0, 0, 0, 5, 5000, 5000};
        for (int i = 0; i < changed.length; i++) {
            double fraction = Edges.FRACTIONS[i];
            FlowNetwork x = Networks.usedDiamond();
            CHECK.due("by " + fraction, changed[i], () -> x.scale(0, fraction));
            CHECK.due("capacity by " + fraction, capacity[i], () -> x.capacity(0));
        }
    }

    private static void scaleThrowsWhatIsNamedFirst() {
        CHECK.sentence("scale: If several exceptions apply, the one that is named first is thrown.");
        for (double fraction : Edges.WRONG_FRACTIONS) {
            USED.due("no node, by " + fraction, Check.INDEX, x -> x.scale(4, fraction));
            EMPTY.due("no node at all, by " + fraction, Check.INDEX, x -> x.scale(0, fraction));
        }
    }

    private static void setEndsReturnsWhetherOther() {
        CHECK.sentence("setEnds: Returns whether the source or the sink is another node than before, or none were chosen before.");
        FlowNetwork x = Networks.withNodes(4);
        x.push();
        CHECK.due("none before", true, () -> x.setEnds(0, 3));
        CHECK.due("the same", false, () -> x.setEnds(0, 3));
        CHECK.due("another source", true, () -> x.setEnds(1, 3));
        CHECK.due("another sink", true, () -> x.setEnds(1, 2));
        CHECK.due("turned", true, () -> x.setEnds(2, 1));
        CHECK.due("both others", true, () -> x.setEnds(0, 3));
        CHECK.due("the same again", false, () -> x.setEnds(0, 3));
        x.pop();
        CHECK.due("none before, by pop", true, () -> x.setEnds(0, 3));
        x.push();
        x.setEnds(3, 0);
        x.pop();
        CHECK.due("the same as before, by pop", false, () -> x.setEnds(0, 3));
    }

    private static void setEndsThrowsWithoutTheNode() {
        CHECK.sentence("setEnds: Throws IndexOutOfBoundsException if there is no such node");
        for (int none : Edges.notBelow(4)) {
            USED.due("source " + none, Check.INDEX, x -> x.setEnds(none, 3));
            USED.due("sink " + none, Check.INDEX, x -> x.setEnds(0, none));
            USED.due("both " + none, Check.INDEX, x -> x.setEnds(none, none));
        }
        for (int none : Edges.notBelow(24)) {
            FULL.due("source " + none, Check.INDEX, x -> x.setEnds(none, 0));
            FULL.due("sink " + none, Check.INDEX, x -> x.setEnds(0, none));
        }
        ONE_NODE.due("without a sink", Check.INDEX, x -> x.setEnds(0, 1));
        ONE_NODE.due("without a source", Check.INDEX, x -> x.setEnds(1, 0));
        CHECK.due("the last as sink", true, () -> Networks.withNodes(24).setEnds(0, 23));
        CHECK.due("the last as source", true, () -> Networks.withNodes(24).setEnds(23, 0));
    }

    private static void setEndsThrowsForOneNode() {
        CHECK.sentence("setEnds: Throws IllegalArgumentException if both are the same");
        ONE_NODE.due("the only node", Check.ARGUMENT, x -> x.setEnds(0, 0));
        for (int node = 0; node < 4; node++) {
            int same = node;
            USED.due("node " + same, Check.ARGUMENT, x -> x.setEnds(same, same));
        }
        FULL.due("the last node", Check.ARGUMENT, x -> x.setEnds(23, 23));
        FlowNetwork x = Networks.usedDiamond();
        x.maximum();
        CHECK.due("refused", Check.ARGUMENT, () -> x.setEnds(1, 1));
        CHECK.due("the ends have stayed", false, () -> x.setEnds(0, 3));
    }

    private static void countsOfNodesAndArcs() {
        CHECK.sentence("Returns the number of nodes. Returns the number of arcs.");
        EMPTY.due("no nodes", 0, x -> x.nodeCount());
        EMPTY.due("no arcs", 0, x -> x.arcCount());
        USED.due("nodes", 4, x -> x.nodeCount());
        USED.due("arcs", 6, x -> x.arcCount());
        FULL.due("24 nodes", 24, x -> x.nodeCount());
        FULL.due("80 arcs", 80, x -> x.arcCount());
    }

    private static void capacityThrowsWithoutTheArc() {
        CHECK.sentence("capacity: Throws IndexOutOfBoundsException if there is no such arc");
        for (int none : Edges.notBelow(0)) {
            ONE_NODE.due("arc " + none + " of none", Check.INDEX, x -> x.capacity(none));
        }
        for (int none : Edges.notBelow(6)) {
            USED.due("arc " + none, Check.INDEX, x -> x.capacity(none));
        }
        for (int none : Edges.notBelow(80)) {
            FULL.due("arc " + none, Check.INDEX, x -> x.capacity(none));
        }
        USED.due("the first", 5, x -> x.capacity(0));
        USED.due("the last", 6, x -> x.capacity(5));
        FULL.due("the last of 80", 1 + 79 * 12500, x -> x.capacity(79));
    }
}
