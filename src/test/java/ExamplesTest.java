/** The four examples of the document. */
public final class ExamplesTest {
    private static final Check CHECK = new Check("ExamplesTest");

    public static void main(String[] args) {
        maximumFlowAndCuts();
        twoSmallestCuts();
        whatAnArcCanCarry();
        withoutEndsAndLevels();
        CHECK.end();
    }

    private static void nodes(FlowNetwork x, int count) {
        for (int node = 0; node < count; node++) {
            CHECK.due("addNode", node, x::addNode);
        }
    }

    private static void arc(FlowNetwork x, int tail, int head, int capacity, int number) {
        CHECK.due("addArc", number, () -> x.addArc(tail, head, capacity));
    }

    private static void maximumFlowAndCuts() {
        FlowNetwork x = new FlowNetwork();
        nodes(x, 4);
        arc(x, 0, 1, 5, 0);
        arc(x, 0, 2, 3, 1);
        arc(x, 1, 3, 4, 2);
        arc(x, 2, 3, 4, 3);
        arc(x, 1, 2, 2, 4);
        CHECK.due("1 setEnds", true, () -> x.setEnds(0, 3));
        CHECK.due("1 maximum", 8, x::maximum);
        CHECK.due("1 smallestCut", 1, x::smallestCut);
        CHECK.due("1 greatestCut", 7, x::greatestCut);
        CHECK.due("1 isBottleneck", true, () -> x.isBottleneck(0));
        CHECK.due("1 headroom", 0, () -> x.headroom(0));
        CHECK.due("1 setCapacity", 5, () -> x.setCapacity(0, 6));
        CHECK.due("1 maximum after", 8, x::maximum);
    }

    private static void twoSmallestCuts() {
        FlowNetwork x = new FlowNetwork();
        nodes(x, 3);
        arc(x, 0, 1, 2, 0);
        arc(x, 1, 2, 2, 1);
        CHECK.due("2 setEnds", true, () -> x.setEnds(0, 2));
        CHECK.due("2 findCuts", 2, x::findCuts);
        CHECK.due("2 cut(0)", 1, () -> x.cut(0));
        CHECK.due("2 cut(1)", 3, () -> x.cut(1));
        CHECK.due("2 isLimiting", false, () -> x.isLimiting(0));
    }

    private static void whatAnArcCanCarry() {
        FlowNetwork x = new FlowNetwork();
        nodes(x, 4);
        arc(x, 0, 1, 2, 0);
        arc(x, 1, 3, 2, 1);
        arc(x, 0, 2, 2, 2);
        arc(x, 2, 3, 2, 3);
        arc(x, 1, 2, 1, 4);
        CHECK.due("3 setEnds", true, () -> x.setEnds(0, 3));
        CHECK.due("3 leastFlow", 0, () -> x.leastFlow(4));
        CHECK.due("3 greatestFlow", 0, () -> x.greatestFlow(4));
        CHECK.due("3 setCapacity", 2, () -> x.setCapacity(3, 3));
        CHECK.due("3 leastFlow after", 0, () -> x.leastFlow(4));
        CHECK.due("3 greatestFlow after", 1, () -> x.greatestFlow(4));
        CHECK.due("3 maximum", 4, x::maximum);
    }

    private static void withoutEndsAndLevels() {
        FlowNetwork x = new FlowNetwork();
        nodes(x, 2);
        arc(x, 0, 1, 10, 0);
        CHECK.due("4 maximum without ends", Check.STATE, x::maximum);
        CHECK.due("4 setEnds", true, () -> x.setEnds(0, 1));
        CHECK.due("4 headroom", -1, () -> x.headroom(0));
        CHECK.due("4 push", 1, x::push);
        CHECK.due("4 scale", 1, () -> x.scale(0, 0.25));
        CHECK.due("4 maximum scaled", 2, x::maximum);
        CHECK.due("4 pop", 0, x::pop);
        CHECK.due("4 maximum", 10, x::maximum);
    }
}
