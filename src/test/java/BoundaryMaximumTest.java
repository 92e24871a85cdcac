/**
 * The boundary cases of promises 10 to 16, and of what the description says of flows: a test for
 * each sentence that names one, on both sides of the boundary.
 */
public final class BoundaryMaximumTest {
    private static final Check CHECK = new Check("BoundaryMaximumTest");
    private static final Unchanged ENDLESS = new Unchanged(CHECK, Networks::endlessDiamond);
    private static final Unchanged DIAMOND = new Unchanged(CHECK, Networks::diamond);
    private static final Unchanged USED = new Unchanged(CHECK, Networks::usedDiamond);
    private static final Unchanged FULL = new Unchanged(CHECK, Networks::full);
    private static final Unchanged NO_ARCS = new Unchanged(CHECK, BoundaryMaximumTest::withoutArcs);

    public static void main(String[] args) {
        flowsAreFrom0ToTheCapacity();
        valueIsLessWhatLeadsBack();
        maximumOfLittleAndOfAll();
        maximumThrowsWithoutEnds();
        maximumWithChangesNothing();
        maximumWithTheSameAfterAChange();
        maximumWithThrowsWithoutEnds();
        maximumWithThrowsWithoutTheArc();
        maximumWithThrowsForTheCapacity();
        maximumWithThrowsWhatIsNamedFirst();
        maximumWithoutChangesNothing();
        maximumWithoutThrowsWithoutEnds();
        maximumWithoutThrowsWithoutTheNode();
        maximumBetweenChangesNothing();
        maximumBetweenThrowsWithoutTheNode();
        maximumBetweenThrowsForOneNode();
        maximumBetweenThrowsWhatIsNamedFirst();
        utilizationIsRounded();
        utilizationOfNothingIs0();
        utilizationThrowsWithoutEnds();
        leastFlowAtItsEnds();
        greatestFlowAtItsEnds();
        flowsBetweenTheirEnds();
        flowsThrowWithoutEnds();
        flowsThrowWithoutTheArc();
        flowsThrowWhatIsNamedFirst();
        CHECK.end();
    }

    private static FlowNetwork withoutArcs() {
        FlowNetwork x = Networks.withNodes(3);
        x.setEnds(0, 2);
        return x;
    }

    /** Ends that have been chosen in a level, and are no more. */
    private static FlowNetwork endsTakenBack() {
        FlowNetwork x = Networks.endlessDiamond();
        x.push();
        x.setEnds(0, 3);
        x.maximum();
        x.pop();
        return x;
    }

    private static void flowsAreFrom0ToTheCapacity() {
        CHECK.sentence("A flow assigns a number to each arc, from 0 to its capacity");
        int[] capacities = {0, 1, 999999, 1000000};
        for (int capacity : capacities) {
            FlowNetwork x = Networks.withArcs(3, 0, 1, capacity, 1, 2, 1000000, 2, 1, capacity);
            x.setEnds(0, 2);
            CHECK.due("maximum", capacity, x::maximum);
            CHECK.due("least of what is needed", capacity, () -> x.leastFlow(0));
            CHECK.due("greatest of what is needed", capacity, () -> x.greatestFlow(0));
            CHECK.due("least behind the sink", 0, () -> x.leastFlow(2));
            CHECK.due("greatest behind the sink", Math.min(capacity, 1000000 - capacity), () -> x.greatestFlow(2));
        }
    }

    private static void valueIsLessWhatLeadsBack() {
        CHECK.sentence("The value of a flow is the sum of the numbers of the arcs that leave the source, minus those that lead to it.");
        FlowNetwork x = Networks.withArcs(2, 0, 1, 7, 1, 0, 1000000);
        x.setEnds(0, 1);
        CHECK.due("with an arc back", 7, x::maximum);
        x.setEnds(1, 0);
        CHECK.due("turned", 1000000, x::maximum);
        FlowNetwork y = Networks.withArcs(3, 1, 0, 5, 0, 1, 3, 1, 2, 9);
        y.setEnds(0, 2);
        CHECK.due("a cycle at the source", 3, y::maximum);
    }

    private static void maximumOfLittleAndOfAll() {
        CHECK.sentence("maximum: Returns the maximum.");
        NO_ARCS.due("without arcs", 0, x -> x.maximum());
        CHECK.due("an arc of 0", 0, () -> Networks.chain(0).maximum());
        CHECK.due("an arc of 1", 1, () -> Networks.chain(1).maximum());
        CHECK.due("an arc of 1000000", 1000000, () -> Networks.chain(1000000).maximum());
        FlowNetwork x = Networks.withNodes(24);
        for (int arc = 0; arc < 80; arc++) {
            x.addArc(arc < 40 ? 5 : 9, arc < 40 ? 9 : 17, 1000000);
        }
        x.setEnds(5, 17);
        CHECK.due("40 arcs and 40 behind them", 40000000, x::maximum);
        x.setEnds(5, 9);
        CHECK.due("40 arcs", 40000000, x::maximum);
        x.setEnds(17, 5);
        CHECK.due("against all arcs", 0, x::maximum);
        FlowNetwork y = Networks.withNodes(24);
        for (int node = 0; node < 23; node++) {
            y.addArc(node, node + 1, 1000000 - node);
        }
        y.setEnds(0, 23);
        CHECK.due("over all nodes", 1000000 - 22, y::maximum);
    }

    private static void maximumThrowsWithoutEnds() {
        CHECK.sentence("maximum: Throws IllegalStateException if no source and sink are chosen");
        ENDLESS.due("never chosen", Check.STATE, x -> x.maximum());
        new Unchanged(CHECK, BoundaryMaximumTest::endsTakenBack).due("taken back", Check.STATE, x -> x.maximum());
        DIAMOND.due("chosen", 8, x -> x.maximum());
    }

    private static void maximumWithChangesNothing() {
        CHECK.sentence("maximumWith: Tells the maximum with another capacity of one arc. Nothing changes.");
        int[][] rows = {{0, 0, 3}, {0, 1, 4}, {0, 5, 8}, {0, 1000000, 8}, {2, 1000000, 8}, {3, 0, 4}, {4, 0, 7}};
        for (int[] row : rows) {
            DIAMOND.due("arc " + row[0] + " with " + row[1], row[2], x -> x.maximumWith(row[0], row[1]));
        }
        USED.due("the last arc with 0", 6, x -> x.maximumWith(5, 0));
        USED.due("the last arc with 1000000", 1000006, x -> x.maximumWith(5, 1000000));
        FULL.due("the same capacity", Networks.full().maximum(), x -> x.maximumWith(79, x.capacity(79)));
    }

    private static void maximumWithTheSameAfterAChange() {
        CHECK.sentence("maximumWith, maximumBetween: what would be is asked of the network as it is now");
        FlowNetwork x = Networks.diamond();
        int[] capacities = {1, 0, 4, 2, 1000000, 0, 3};
        for (int capacity : capacities) {
            int want = 4 + Math.min(capacity, 4);
            x.setCapacity(3, capacity);
            CHECK.due("the same capacity", want, () -> x.maximumWith(3, capacity));
            x.setCapacity(3, 0);
            x.setCapacity(3, capacity);
            CHECK.due("the same ends", want, () -> x.maximumBetween(0, 3));
            x.setCapacity(3, 0);
            x.setCapacity(3, capacity);
            CHECK.due("without a node apart", want, () -> x.maximumWithout(x.addNode()));
            CHECK.due("maximum", want, x::maximum);
        }
    }

    private static void maximumWithThrowsWithoutEnds() {
        CHECK.sentence("maximumWith: Throws IllegalStateException if no source and sink are chosen");
        ENDLESS.due("never chosen", Check.STATE, x -> x.maximumWith(0, 1));
        new Unchanged(CHECK, BoundaryMaximumTest::endsTakenBack).due("taken back", Check.STATE, x -> x.maximumWith(0, 1));
        DIAMOND.due("chosen", 4, x -> x.maximumWith(0, 1));
    }

    private static void maximumWithThrowsWithoutTheArc() {
        CHECK.sentence("maximumWith: Throws IndexOutOfBoundsException if there is no such arc");
        for (int none : Edges.notBelow(0)) {
            NO_ARCS.due("arc " + none + " of none", Check.INDEX, x -> x.maximumWith(none, 1));
        }
        for (int none : Edges.notBelow(6)) {
            USED.due("arc " + none, Check.INDEX, x -> x.maximumWith(none, 1));
        }
        for (int none : Edges.notBelow(80)) {
            FULL.due("arc " + none, Check.INDEX, x -> x.maximumWith(none, 1));
        }
        USED.due("the first arc", 9, x -> x.maximumWith(0, 0));
        USED.due("the last arc", 7, x -> x.maximumWith(5, 1));
    }

    private static void maximumWithThrowsForTheCapacity() {
        CHECK.sentence("maximumWith: Throws IllegalArgumentException if capacity is not 0 to 1000000");
        for (int capacity : Edges.WRONG_CAPACITIES) {
            USED.due("with " + capacity, Check.ARGUMENT, x -> x.maximumWith(5, capacity));
        }
        for (int capacity : Edges.CAPACITIES) {
            USED.due("with " + capacity, 6 + capacity, x -> x.maximumWith(5, capacity));
        }
    }

    private static void maximumWithThrowsWhatIsNamedFirst() {
        CHECK.sentence("maximumWith: If several exceptions apply, the one that is named first is thrown.");
        ENDLESS.due("no ends, no arc", Check.STATE, x -> x.maximumWith(5, 1));
        ENDLESS.due("no ends, capacity", Check.STATE, x -> x.maximumWith(0, -1));
        ENDLESS.due("no ends, no arc, capacity", Check.STATE, x -> x.maximumWith(-1, 1000001));
        USED.due("no arc, capacity below", Check.INDEX, x -> x.maximumWith(6, -1));
        USED.due("no arc, capacity above", Check.INDEX, x -> x.maximumWith(-1, 1000001));
    }

    private static void maximumWithoutChangesNothing() {
        CHECK.sentence("maximumWithout: Tells the maximum if all arcs from and to one node had the capacity 0. Nothing changes.");
        int[] want = {0, 3, 4, 0};
        for (int node = 0; node < want.length; node++) {
            int without = node;
            DIAMOND.due("without " + without, want[without], x -> x.maximumWithout(without));
        }
        NO_ARCS.due("a node without arcs", 0, x -> x.maximumWithout(1));
        FlowNetwork x = Networks.diamond();
        x.addNode();
        CHECK.due("a node apart", 8, () -> x.maximumWithout(4));
        FULL.due("the source", 0, y -> y.maximumWithout(7));
        FULL.due("the sink", 0, y -> y.maximumWithout(16));
    }

    private static void maximumWithoutThrowsWithoutEnds() {
        CHECK.sentence("maximumWithout: Throws IllegalStateException if no source and sink are chosen");
        ENDLESS.due("never chosen", Check.STATE, x -> x.maximumWithout(0));
        new Unchanged(CHECK, BoundaryMaximumTest::endsTakenBack).due("taken back", Check.STATE, x -> x.maximumWithout(0));
        DIAMOND.due("chosen", 3, x -> x.maximumWithout(1));
        CHECK.sentence("maximumWithout: If several exceptions apply, the one that is named first is thrown.");
        for (int none : Edges.notBelow(4)) {
            ENDLESS.due("no ends, no node " + none, Check.STATE, x -> x.maximumWithout(none));
        }
        new Unchanged(CHECK, FlowNetwork::new).due("no ends, no nodes", Check.STATE, x -> x.maximumWithout(0));
    }

    private static void maximumWithoutThrowsWithoutTheNode() {
        CHECK.sentence("maximumWithout: Throws IndexOutOfBoundsException if there is no such node");
        for (int none : Edges.notBelow(4)) {
            USED.due("node " + none, Check.INDEX, x -> x.maximumWithout(none));
        }
        for (int none : Edges.notBelow(24)) {
            FULL.due("node " + none, Check.INDEX, x -> x.maximumWithout(none));
        }
        USED.due("the first node", 0, x -> x.maximumWithout(0));
        USED.due("the last node", 0, x -> x.maximumWithout(3));
        FULL.due("the last of 24", Networks.full().maximumWithout(23), x -> x.maximumWithout(23));
    }

    private static void maximumBetweenChangesNothing() {
        CHECK.sentence("maximumBetween: Tells the maximum for another source and sink. Nothing changes.");
        int[][] rows = {{0, 3, 8}, {0, 1, 5}, {0, 2, 5}, {1, 2, 2}, {1, 3, 6}, {2, 3, 4}, {3, 0, 0}, {2, 1, 0}};
        for (int[] row : rows) {
            DIAMOND.due(row[0] + " to " + row[1], row[2], x -> x.maximumBetween(row[0], row[1]));
            ENDLESS.due("no ends, " + row[0] + " to " + row[1], row[2], x -> x.maximumBetween(row[0], row[1]));
        }
        USED.due("from the new arc's tail", 12, x -> x.maximumBetween(0, 3));
        USED.due("without a way", 0, x -> x.maximumBetween(3, 1));
    }

    private static void maximumBetweenThrowsWithoutTheNode() {
        CHECK.sentence("maximumBetween: Throws IndexOutOfBoundsException if there is no such node");
        for (int none : Edges.notBelow(4)) {
            USED.due("source " + none, Check.INDEX, x -> x.maximumBetween(none, 0));
            USED.due("sink " + none, Check.INDEX, x -> x.maximumBetween(0, none));
            ENDLESS.due("no ends, source " + none, Check.INDEX, x -> x.maximumBetween(none, 3));
            ENDLESS.due("no ends, sink " + none, Check.INDEX, x -> x.maximumBetween(3, none));
        }
        for (int none : Edges.notBelow(24)) {
            FULL.due("source " + none, Check.INDEX, x -> x.maximumBetween(none, 0));
            FULL.due("sink " + none, Check.INDEX, x -> x.maximumBetween(0, none));
        }
        FlowNetwork x = Networks.withNodes(24);
        x.addArc(0, 23, 5);
        CHECK.due("the last as sink", 5, () -> x.maximumBetween(0, 23));
        CHECK.due("the last as source", 0, () -> x.maximumBetween(23, 0));
    }

    private static void maximumBetweenThrowsForOneNode() {
        CHECK.sentence("maximumBetween: Throws IllegalArgumentException if both are the same");
        for (int node = 0; node < 4; node++) {
            int same = node;
            USED.due("node " + same, Check.ARGUMENT, x -> x.maximumBetween(same, same));
            ENDLESS.due("no ends, node " + same, Check.ARGUMENT, x -> x.maximumBetween(same, same));
        }
        new Unchanged(CHECK, () -> Networks.withNodes(1)).due("the only node", Check.ARGUMENT, x -> x.maximumBetween(0, 0));
    }

    private static void maximumBetweenThrowsWhatIsNamedFirst() {
        CHECK.sentence("maximumBetween: If several exceptions apply, the one that is named first is thrown.");
        for (int none : Edges.notBelow(4)) {
            USED.due("no node, the same " + none, Check.INDEX, x -> x.maximumBetween(none, none));
        }
        new Unchanged(CHECK, FlowNetwork::new).due("no nodes, the same", Check.INDEX, x -> x.maximumBetween(0, 0));
    }

    private static void utilizationIsRounded() {
        CHECK.sentence("utilization: Returns the maximum, divided by the sum of the capacities of the arcs that leave the source, rounded to the nearest double");
        DIAMOND.due("all", 1.0, x -> x.utilization());
        CHECK.due("a third", 1.0 / 3.0, () -> Networks.chain(3, 1).utilization());
        CHECK.due("two thirds", 2.0 / 3.0, () -> Networks.chain(3, 2).utilization());
        CHECK.due("nearly all", 999999.0 / 1000000.0, () -> Networks.chain(1000000, 999999).utilization());
        CHECK.due("nearly nothing", 1.0 / 1000000.0, () -> Networks.chain(1000000, 1).utilization());
        FlowNetwork x = Networks.withNodes(3);
        for (int arc = 0; arc < 79; arc++) {
            x.addArc(0, 1, 1000000);
        }
        x.addArc(1, 2, 1);
        x.setEnds(0, 2);
        CHECK.due("one of 79 millions", 1.0 / 79000000.0, x::utilization);
        x.setCapacity(78, 999999);
        CHECK.due("one of nearly 79 millions", 1.0 / 78999999.0, x::utilization);
        FlowNetwork y = Networks.withArcs(3, 0, 1, 1, 0, 2, 2, 1, 0, 50, 1, 2, 1);
        y.setEnds(0, 2);
        CHECK.due("arcs to the source do not count", 1.0, y::utilization);
    }

    private static void utilizationOfNothingIs0() {
        CHECK.sentence("utilization: 0 if this sum is 0");
        NO_ARCS.due("no arcs", 0.0, x -> x.utilization());
        new Unchanged(CHECK, () -> Networks.chain(0, 5)).due("an arc of 0", 0.0, x -> x.utilization());
        new Unchanged(CHECK, () -> Networks.chain(0)).due("an arc of 0 to the sink", 0.0, x -> x.utilization());
        CHECK.due("an arc of 1 to the sink", 1.0, () -> Networks.chain(1).utilization());
        CHECK.due("an arc of 1 and no way on", 0.0, () -> Networks.chain(1, 0).utilization());
        FlowNetwork x = Networks.withArcs(2, 0, 1, 5);
        x.setEnds(1, 0);
        CHECK.due("an arc to the source alone", 0.0, x::utilization);
        x.addArc(1, 0, 0);
        CHECK.due("and one of 0 from it", 0.0, x::utilization);
        x.setCapacity(1, 1);
        CHECK.due("and one of 1 from it", 1.0, x::utilization);
    }

    private static void utilizationThrowsWithoutEnds() {
        CHECK.sentence("utilization: Throws IllegalStateException if no source and sink are chosen");
        ENDLESS.due("never chosen", Check.STATE, x -> x.utilization());
        new Unchanged(CHECK, BoundaryMaximumTest::endsTakenBack).due("taken back", Check.STATE, x -> x.utilization());
        new Unchanged(CHECK, FlowNetwork::new).due("no nodes", Check.STATE, x -> x.utilization());
    }

    private static void leastFlowAtItsEnds() {
        CHECK.sentence("leastFlow: Returns the least number that a maximum flow assigns to the arc.");
        int[] want = {5, 3, 4, 4, 1};
        for (int arc = 0; arc < want.length; arc++) {
            int number = arc;
            DIAMOND.due("arc " + arc, want[arc], x -> x.leastFlow(number));
        }
        new Unchanged(CHECK, () -> Networks.chain(0)).due("of 0", 0, x -> x.leastFlow(0));
        new Unchanged(CHECK, () -> Networks.chain(1000000)).due("of 1000000", 1000000, x -> x.leastFlow(0));
        new Unchanged(CHECK, () -> Networks.chain(1000000, 0)).due("of what goes nowhere", 0, x -> x.leastFlow(0));
        FlowNetwork x = Networks.withArcs(2, 0, 1, 3, 1, 0, 2);
        x.setEnds(0, 1);
        CHECK.due("an arc from the sink to the source", 0, () -> x.leastFlow(1));
        CHECK.due("an arc from the source to the sink", 3, () -> x.leastFlow(0));
    }

    private static void greatestFlowAtItsEnds() {
        CHECK.sentence("greatestFlow: Returns the greatest number that a maximum flow assigns to the arc.");
        int[] want = {5, 3, 4, 4, 1};
        for (int arc = 0; arc < want.length; arc++) {
            int number = arc;
            DIAMOND.due("arc " + arc, want[arc], x -> x.greatestFlow(number));
        }
        new Unchanged(CHECK, () -> Networks.chain(0)).due("of 0", 0, x -> x.greatestFlow(0));
        new Unchanged(CHECK, () -> Networks.chain(1000000)).due("of 1000000", 1000000, x -> x.greatestFlow(0));
        new Unchanged(CHECK, () -> Networks.chain(1000000, 0)).due("of what goes nowhere", 0, x -> x.greatestFlow(0));
        Unchanged cycle = new Unchanged(CHECK, () -> {
            FlowNetwork x = Networks.withArcs(4, 2, 3, 1000000, 3, 2, 999999, 0, 1, 1);
            x.setEnds(0, 1);
            return x;
        });
        cycle.due("round a cycle apart", 999999, x -> x.greatestFlow(0));
        cycle.due("round a cycle apart, back", 999999, x -> x.greatestFlow(1));
        cycle.due("least of a cycle apart", 0, x -> x.leastFlow(0));
        FlowNetwork y = Networks.withArcs(2, 0, 1, 3, 1, 0, 2);
        y.setEnds(0, 1);
        CHECK.due("a full arc leaves no way round", 0, () -> y.greatestFlow(1));
    }

    /** Two ways of 3 each, of which 4 in all is taken: each gets 1 to 3, however the 4 are parted. */
    private static FlowNetwork twoWays(boolean turned) {
        int first = turned ? 2 : 1;
        int second = 3 - first;
        FlowNetwork x = Networks.withArcs(5, 0, first, 3, first, 3, 3, 0, second, 3, second, 3, 3, 3, 4, 4);
        x.setEnds(0, 4);
        return x;
    }

    private static void flowsBetweenTheirEnds() {
        CHECK.sentence("leastFlow, greatestFlow: the least and the greatest number that a maximum flow assigns to the arc");
        for (int turn = 0; turn < 2; turn++) {
            boolean turned = turn == 1;
            Unchanged ways = new Unchanged(CHECK, () -> twoWays(turned));
            for (int arc = 0; arc < 4; arc++) {
                int number = arc;
                ways.due("least of " + arc, 1, x -> x.leastFlow(number));
                ways.due("greatest of " + arc, 3, x -> x.greatestFlow(number));
            }
            ways.due("least of the last", 4, x -> x.leastFlow(4));
            ways.due("greatest of the last", 4, x -> x.greatestFlow(4));
        }
        FlowNetwork x = twoWays(false);
        int[][] rows = {{6, 3, 3}, {5, 2, 3}, {3, 0, 3}, {2, 0, 2}, {1, 0, 1}, {0, 0, 0}, {1000000, 3, 3}};
        for (int[] row : rows) {
            x.setCapacity(4, row[0]);
            CHECK.due("least with " + row[0] + " at the end", row[1], () -> x.leastFlow(0));
            CHECK.due("greatest with " + row[0] + " at the end", row[2], () -> x.greatestFlow(0));
        }
    }

    private static void flowsThrowWithoutEnds() {
        CHECK.sentence("leastFlow, greatestFlow: Throws IllegalStateException if no source and sink are chosen");
        Unchanged takenBack = new Unchanged(CHECK, BoundaryMaximumTest::endsTakenBack);
        ENDLESS.due("leastFlow", Check.STATE, x -> x.leastFlow(0));
        ENDLESS.due("greatestFlow", Check.STATE, x -> x.greatestFlow(0));
        takenBack.due("leastFlow", Check.STATE, x -> x.leastFlow(4));
        takenBack.due("greatestFlow", Check.STATE, x -> x.greatestFlow(4));
    }

    private static void flowsThrowWithoutTheArc() {
        CHECK.sentence("leastFlow, greatestFlow: Throws IndexOutOfBoundsException if there is no such arc");
        for (int none : Edges.notBelow(0)) {
            NO_ARCS.due("leastFlow of " + none, Check.INDEX, x -> x.leastFlow(none));
            NO_ARCS.due("greatestFlow of " + none, Check.INDEX, x -> x.greatestFlow(none));
        }
        for (int none : Edges.notBelow(6)) {
            USED.due("leastFlow of " + none, Check.INDEX, x -> x.leastFlow(none));
            USED.due("greatestFlow of " + none, Check.INDEX, x -> x.greatestFlow(none));
        }
        for (int none : Edges.notBelow(80)) {
            FULL.due("leastFlow of " + none, Check.INDEX, x -> x.leastFlow(none));
            FULL.due("greatestFlow of " + none, Check.INDEX, x -> x.greatestFlow(none));
        }
        USED.due("least of the last", 6, x -> x.leastFlow(5));
        USED.due("greatest of the last", 6, x -> x.greatestFlow(5));
    }

    private static void flowsThrowWhatIsNamedFirst() {
        CHECK.sentence("leastFlow, greatestFlow: If several exceptions apply, the one that is named first is thrown.");
        for (int none : Edges.notBelow(5)) {
            ENDLESS.due("leastFlow, no ends, no arc " + none, Check.STATE, x -> x.leastFlow(none));
            ENDLESS.due("greatestFlow, no ends, no arc " + none, Check.STATE, x -> x.greatestFlow(none));
        }
    }
}
