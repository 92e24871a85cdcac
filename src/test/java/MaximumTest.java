/** Promises 10 to 16: the maximum, here and elsewhere, and the range of the flow on each arc. */
public final class MaximumTest {
    private static final Check CHECK = new Check("MaximumTest");
    private static final int[] NONE = {-1, 80, Integer.MIN_VALUE, Integer.MAX_VALUE};

    public static void main(String[] args) {
        withoutEnds();
        maximum();
        maximumOfTheGreatestNetwork();
        maximumWith();
        maximumWithout();
        maximumBetween();
        utilization();
        rangeOfFlow();
        rangeOnCycles();
        rangeRefuses();
        CHECK.end();
    }

    private static void withoutEnds() {
        FlowNetwork x = Networks.withArcs(2, 0, 1, 1);
        CHECK.due("maximum", Check.STATE, x::maximum);
        CHECK.due("maximumWith", Check.STATE, () -> x.maximumWith(0, 1));
        CHECK.due("maximumWith, first", Check.STATE, () -> x.maximumWith(-1, -1));
        CHECK.due("maximumWithout", Check.STATE, () -> x.maximumWithout(0));
        CHECK.due("maximumWithout, first", Check.STATE, () -> x.maximumWithout(9));
        CHECK.due("utilization", Check.STATE, x::utilization);
        CHECK.due("leastFlow", Check.STATE, () -> x.leastFlow(0));
        CHECK.due("leastFlow, first", Check.STATE, () -> x.leastFlow(9));
        CHECK.due("greatestFlow", Check.STATE, () -> x.greatestFlow(0));
        CHECK.due("greatestFlow, first", Check.STATE, () -> x.greatestFlow(9));
        CHECK.due("maximumBetween needs none", 1, () -> x.maximumBetween(0, 1));
        CHECK.due("and chooses none", Check.STATE, x::maximum);
    }

    private static void maximum() {
        CHECK.due("diamond", 8, () -> Networks.diamond().maximum());
        CHECK.due("chain", 2, () -> Networks.chain(5, 2, 9).maximum());
        CHECK.due("broken chain", 0, () -> Networks.chain(5, 0, 9).maximum());
        FlowNetwork x = Networks.withArcs(2, 0, 1, 3, 0, 1, 4, 1, 0, 9);
        x.setEnds(0, 1);
        CHECK.due("parallel arcs", 7, x::maximum);
        x.setEnds(1, 0);
        CHECK.due("turned", 9, x::maximum);
        // The short way through the middle has to be taken back.
        FlowNetwork y = Networks.withArcs(4, 0, 1, 1, 0, 2, 1, 1, 2, 1, 1, 3, 1, 2, 3, 1);
        y.setEnds(0, 3);
        CHECK.due("both ways", 2, y::maximum);
    }

    private static void maximumOfTheGreatestNetwork() {
        FlowNetwork x = Networks.withNodes(24);
        for (int arc = 0; arc < 80; arc++) {
            x.addArc(0, 23, 1000000);
        }
        x.setEnds(0, 23);
        CHECK.due("80 arcs", 80000000, x::maximum);
        CHECK.due("80 arcs used", 1.0, x::utilization);
        CHECK.due("80 arcs cut", 80000000, () -> x.cutCapacity(1));
        CHECK.due("80 arcs without one", 79000000, () -> x.maximumWith(79, 0));
        FlowNetwork y = Networks.withNodes(24);
        for (int node = 1; node < 23; node++) {
            y.addArc(0, node, 1000000);
            y.addArc(node, 23, 1000000);
        }
        y.setEnds(0, 23);
        CHECK.due("22 ways", 22000000, y::maximum);
        CHECK.due("21 ways", 21000000, () -> y.maximumWithout(7));
    }

    private static void maximumWith() {
        FlowNetwork x = Networks.diamond();
        long before = x.digest();
        CHECK.due("less", 3, () -> x.maximumWith(0, 0));
        CHECK.due("a bit less", 7, () -> x.maximumWith(0, 4));
        CHECK.due("the same", 8, () -> x.maximumWith(0, 5));
        CHECK.due("more", 8, () -> x.maximumWith(0, 1000000));
        CHECK.due("last arc", 4, () -> x.maximumWith(3, 0));
        CHECK.due("an arc without use", 8, () -> x.maximumWith(4, 1));
        CHECK.due("nothing changes", before, x::digest);
        CHECK.due("capacity stays", 5, () -> x.capacity(0));
        FlowNetwork y = Networks.chain(2, 9);
        CHECK.due("more flow", 9, () -> y.maximumWith(0, 1000000));
        CHECK.due("none", Check.INDEX, () -> x.maximumWith(5, 1));
        for (int arc : NONE) {
            CHECK.due("none", Check.INDEX, () -> x.maximumWith(arc, 1));
            CHECK.due("none, first", Check.INDEX, () -> x.maximumWith(arc, -1));
        }
        int[] wrong = {-1, 1000001, Integer.MIN_VALUE, Integer.MAX_VALUE};
        for (int capacity : wrong) {
            CHECK.due("wrong capacity", Check.ARGUMENT, () -> x.maximumWith(0, capacity));
        }
    }

    private static void maximumWithout() {
        FlowNetwork x = Networks.diamond();
        long before = x.digest();
        CHECK.due("without the source", 0, () -> x.maximumWithout(0));
        CHECK.due("without 1", 3, () -> x.maximumWithout(1));
        CHECK.due("without 2", 4, () -> x.maximumWithout(2));
        CHECK.due("without the sink", 0, () -> x.maximumWithout(3));
        CHECK.due("nothing changes", before, x::digest);
        CHECK.due("none", Check.INDEX, () -> x.maximumWithout(4));
        for (int node : NONE) {
            CHECK.due("none", Check.INDEX, () -> x.maximumWithout(node));
        }
    }

    private static void maximumBetween() {
        FlowNetwork x = Networks.diamond();
        long before = x.digest();
        CHECK.due("the same ends", 8, () -> x.maximumBetween(0, 3));
        CHECK.due("0 to 2", 5, () -> x.maximumBetween(0, 2));
        CHECK.due("1 to 3", 6, () -> x.maximumBetween(1, 3));
        CHECK.due("1 to 2", 2, () -> x.maximumBetween(1, 2));
        CHECK.due("turned", 0, () -> x.maximumBetween(3, 0));
        CHECK.due("nothing changes", before, x::digest);
        CHECK.due("ends stay", false, () -> x.setEnds(0, 3));
        CHECK.due("the same", Check.ARGUMENT, () -> x.maximumBetween(2, 2));
        CHECK.due("none", Check.INDEX, () -> x.maximumBetween(0, 4));
        CHECK.due("none", Check.INDEX, () -> x.maximumBetween(4, 0));
        for (int node : NONE) {
            CHECK.due("no source", Check.INDEX, () -> x.maximumBetween(node, 0));
            CHECK.due("no sink", Check.INDEX, () -> x.maximumBetween(0, node));
            CHECK.due("neither", Check.INDEX, () -> x.maximumBetween(node, node));
        }
    }

    private static void utilization() {
        CHECK.due("all", 1.0, () -> Networks.diamond().utilization());
        CHECK.due("a third", 1.0 / 3.0, () -> Networks.chain(3, 1).utilization());
        CHECK.due("no way", 0.0, () -> Networks.chain(3, 0).utilization());
        CHECK.due("nothing leaves", 0.0, () -> Networks.chain(0, 3).utilization());
        FlowNetwork x = Networks.withArcs(3, 1, 0, 5, 0, 1, 7, 1, 2, 4, 0, 1, 3);
        x.setEnds(0, 2);
        CHECK.due("arcs to the source do not count", 0.4, x::utilization);
        x.setEnds(2, 0);
        CHECK.due("no arc leaves", 0.0, x::utilization);
    }

    private static void range(FlowNetwork x, int arc, int least, int greatest) {
        CHECK.due("leastFlow of " + arc, least, () -> x.leastFlow(arc));
        CHECK.due("greatestFlow of " + arc, greatest, () -> x.greatestFlow(arc));
    }

    private static void rangeOfFlow() {
        // 4 go from 0 to 3, over 1 or 2, and behind 3 over one arc.
        FlowNetwork x = Networks.withArcs(
                5, 0, 1, 3, 0, 2, 3, 1, 3, 3, 2, 3, 3, 3, 4, 4, 1, 2, 9, 0, 4, 2);
        x.setEnds(0, 4);
        CHECK.due("maximum", 6, x::maximum);
        range(x, 0, 1, 3);
        range(x, 1, 1, 3);
        range(x, 2, 1, 3);
        range(x, 3, 1, 3);
        range(x, 4, 4, 4);
        range(x, 5, 0, 2);
        range(x, 6, 2, 2);
        CHECK.due("a range changes nothing", 6, x::maximum);
        x.setCapacity(4, 1);
        range(x, 0, 0, 1);
        range(x, 5, 0, 1);
        range(x, 6, 2, 2);
    }

    private static void rangeOnCycles() {
        // A maximum flow may also go round, through the ends and elsewhere.
        FlowNetwork x = Networks.withArcs(
                5, 0, 1, 5, 1, 0, 3, 1, 2, 2, 3, 4, 8, 4, 3, 6, 2, 1, 4, 2, 3, 1);
        x.setEnds(0, 2);
        CHECK.due("maximum", 2, x::maximum);
        range(x, 0, 2, 5);
        range(x, 1, 0, 3);
        range(x, 2, 2, 2);
        range(x, 3, 0, 6);
        range(x, 4, 0, 6);
        range(x, 5, 0, 0);
        range(x, 6, 0, 0);
    }

    private static void rangeRefuses() {
        FlowNetwork x = Networks.diamond();
        CHECK.due("leastFlow none", Check.INDEX, () -> x.leastFlow(5));
        CHECK.due("greatestFlow none", Check.INDEX, () -> x.greatestFlow(5));
        for (int arc : NONE) {
            CHECK.due("leastFlow none", Check.INDEX, () -> x.leastFlow(arc));
            CHECK.due("greatestFlow none", Check.INDEX, () -> x.greatestFlow(arc));
        }
    }
}
