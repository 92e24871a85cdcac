/** Promises 17 to 24: cuts, their number, and what the arcs in them do. */
public final class CutsTest {
    private static final Check CHECK = new Check("CutsTest");
    private static final int[] NONE = {-1, 80, Integer.MIN_VALUE, Integer.MAX_VALUE};

    public static void main(String[] args) {
        withoutEnds();
        cutCapacity();
        cutCapacityRefuses();
        smallestAndGreatest();
        findCuts();
        keptCuts();
        mostCuts();
        bottlenecks();
        limitingArcs();
        headroom();
        arcsRefused();
        CHECK.end();
    }

    private static void withoutEnds() {
        FlowNetwork x = Networks.withArcs(2, 0, 1, 1);
        CHECK.due("cutCapacity", Check.STATE, () -> x.cutCapacity(1));
        CHECK.due("cutCapacity, first", Check.STATE, () -> x.cutCapacity(-1));
        CHECK.due("smallestCut", Check.STATE, x::smallestCut);
        CHECK.due("greatestCut", Check.STATE, x::greatestCut);
        CHECK.due("findCuts", Check.STATE, x::findCuts);
        CHECK.due("isBottleneck", Check.STATE, () -> x.isBottleneck(0));
        CHECK.due("isBottleneck, first", Check.STATE, () -> x.isBottleneck(9));
        CHECK.due("isLimiting", Check.STATE, () -> x.isLimiting(0));
        CHECK.due("isLimiting, first", Check.STATE, () -> x.isLimiting(9));
        CHECK.due("headroom", Check.STATE, () -> x.headroom(0));
        CHECK.due("headroom, first", Check.STATE, () -> x.headroom(9));
        CHECK.due("cut", Check.INDEX, () -> x.cut(0));
    }

    private static void cutCapacity() {
        FlowNetwork x = Networks.diamond();
        int[][] rows = {{1, 8}, {3, 9}, {5, 9}, {7, 8}};
        for (int[] row : rows) {
            CHECK.due("cutCapacity of " + row[0], row[1], () -> x.cutCapacity(row[0]));
        }
        FlowNetwork y = Networks.withArcs(3, 0, 1, 5, 1, 0, 7, 1, 2, 2);
        y.setEnds(0, 2);
        CHECK.due("an arc into the cut", 5, () -> y.cutCapacity(1));
        CHECK.due("an arc inside the cut", 2, () -> y.cutCapacity(3));
    }

    private static void cutCapacityRefuses() {
        FlowNetwork x = Networks.diamond();
        int[] wrong = {0, 2, 8, 9, 15, 17, 33, 1 << 24 | 1, -1, -7, Integer.MIN_VALUE | 1, Integer.MAX_VALUE};
        for (int mask : wrong) {
            CHECK.due("cutCapacity of " + mask, Check.ARGUMENT, () -> x.cutCapacity(mask));
        }
        x.addNode();
        CHECK.due("a cut with a new node", 8, () -> x.cutCapacity(17));
        FlowNetwork y = Networks.withNodes(24);
        y.setEnds(23, 0);
        CHECK.due("24 nodes", 0, () -> y.cutCapacity(0xfffffe));
        CHECK.due("a 25th node", Check.ARGUMENT, () -> y.cutCapacity(0x1fffffe));
    }

    private static void smallestAndGreatest() {
        FlowNetwork x = Networks.chain(3, 2, 5, 2, 4);
        CHECK.due("smallestCut", 3, x::smallestCut);
        CHECK.due("greatestCut", 15, x::greatestCut);
        x.setCapacity(1, 3);
        CHECK.due("smallestCut after", 15, x::smallestCut);
        CHECK.due("greatestCut after", 15, x::greatestCut);
        x.addNode();
        CHECK.due("smallestCut, a node apart", 15, x::smallestCut);
        CHECK.due("greatestCut, a node apart", 79, x::greatestCut);
        x.setEnds(5, 0);
        CHECK.due("smallestCut turned", 32, x::smallestCut);
        CHECK.due("greatestCut turned", 126, x::greatestCut);
    }

    private static void findCuts() {
        FlowNetwork x = Networks.chain(2, 2, 2, 3);
        CHECK.due("findCuts", 3, x::findCuts);
        int[] masks = {1, 3, 7};
        for (int i = 0; i < masks.length; i++) {
            int index = i;
            CHECK.due("cut " + i, masks[i], () -> x.cut(index));
        }
        CHECK.due("no cut", Check.INDEX, () -> x.cut(3));
        for (int index : NONE) {
            CHECK.due("no cut", Check.INDEX, () -> x.cut(index));
        }
        // High nodes near the source: the masks ascend all the same.
        FlowNetwork y = Networks.withArcs(4, 3, 2, 1, 2, 1, 1, 1, 0, 1);
        y.setEnds(3, 0);
        CHECK.due("findCuts down", 3, y::findCuts);
        CHECK.due("cut 0 down", 8, () -> y.cut(0));
        CHECK.due("cut 1 down", 12, () -> y.cut(1));
        CHECK.due("cut 2 down", 14, () -> y.cut(2));
    }

    private static void keptCuts() {
        FlowNetwork x = Networks.chain(2, 2);
        x.push();
        CHECK.due("findCuts", 2, x::findCuts);
        x.setCapacity(0, 1);
        CHECK.due("kept after setCapacity", 3, () -> x.cut(1));
        x.pop();
        x.setEnds(2, 0);
        CHECK.due("kept after setEnds", 3, () -> x.cut(1));
        x.maximumBetween(0, 1);
        x.addNode();
        CHECK.due("kept after addNode", 1, () -> x.cut(0));
        CHECK.due("not more are kept", Check.INDEX, () -> x.cut(2));
        CHECK.due("findCuts again", 8 / 2, x::findCuts);
        CHECK.due("others are kept", 4, () -> x.cut(0));
        x.setEnds(0, 2);
        x.setCapacity(1, 1);
        CHECK.due("findCuts fewer", 2, x::findCuts);
        CHECK.due("fewer are kept", Check.INDEX, () -> x.cut(2));
        keptAfterRefusal();
    }

    private static void keptAfterRefusal() {
        FlowNetwork x = Networks.withArcs(2, 0, 1, 5);
        x.push();
        x.setEnds(0, 1);
        CHECK.due("findCuts", 1, x::findCuts);
        x.pop();
        CHECK.due("findCuts refused", Check.STATE, x::findCuts);
        CHECK.due("kept after the refusal", 1, () -> x.cut(0));
    }

    private static void mostCuts() {
        FlowNetwork x = Networks.withNodes(24);
        x.setEnds(0, 23);
        CHECK.due("of 4 million", 300, x::findCuts);
        for (int i = 0; i < 300; i++) {
            int index = i;
            CHECK.due("cut " + i, 2 * i + 1, () -> x.cut(index));
        }
        CHECK.due("no 301st", Check.INDEX, () -> x.cut(300));
        x.setEnds(23, 0);
        CHECK.due("of 4 million, turned", 300, x::findCuts);
        CHECK.due("first", 1 << 23, () -> x.cut(0));
        CHECK.due("last", (1 << 23) + 598, () -> x.cut(299));
        // Where node 1 is in a cut, all others are: the greatest masks are left out.
        for (int node = 2; node < 23; node++) {
            x.addArc(1, node, 1);
        }
        CHECK.due("with arcs", 300, x::findCuts);
        CHECK.due("second", (1 << 23) + 4, () -> x.cut(1));
        CHECK.due("last", (1 << 23) + 4 * 299, () -> x.cut(299));
        exactlyAsManyAsAreKept();
    }

    private static void exactlyAsManyAsAreKept() {
        FlowNetwork x = Networks.withNodes(10);
        x.setEnds(0, 9);
        CHECK.due("256 cuts", 256, x::findCuts);
        CHECK.due("the last of 256", 511, () -> x.cut(255));
        CHECK.due("no 257th", Check.INDEX, () -> x.cut(256));
        x.addNode();
        CHECK.due("of 512 cuts", 300, x::findCuts);
    }

    private static void bottleneck(FlowNetwork x, int arc, boolean want) {
        CHECK.due("isBottleneck " + arc, want, () -> x.isBottleneck(arc));
    }

    private static void limiting(FlowNetwork x, int arc, boolean want) {
        CHECK.due("isLimiting " + arc, want, () -> x.isLimiting(arc));
    }

    private static void bottlenecks() {
        FlowNetwork x = Networks.chain(3, 2, 5, 2, 4);
        x.addArc(0, 2, 0);
        x.addArc(3, 1, 6);
        boolean[] want = {false, true, false, true, false, false, false};
        for (int arc = 0; arc < want.length; arc++) {
            bottleneck(x, arc, want[arc]);
        }
        // Two parallel arcs, and one back.
        FlowNetwork y = Networks.withArcs(4, 0, 1, 2, 1, 2, 1, 1, 2, 1, 2, 3, 2, 2, 1, 1);
        y.setEnds(0, 3);
        bottleneck(y, 0, true);
        bottleneck(y, 1, true);
        bottleneck(y, 2, true);
        bottleneck(y, 3, true);
        bottleneck(y, 4, false);
        // Three minimum cuts, none with arc 2; then just the greatest of them.
        FlowNetwork z = Networks.withArcs(4, 0, 1, 2, 0, 2, 2, 1, 2, 1, 1, 3, 2, 2, 3, 2);
        z.setEnds(0, 3);
        bottleneck(z, 0, true);
        bottleneck(z, 2, false);
        bottleneck(z, 4, true);
        z.setCapacity(0, 3);
        bottleneck(z, 0, false);
        bottleneck(z, 2, false);
        bottleneck(z, 4, true);
    }

    private static void limitingArcs() {
        FlowNetwork x = Networks.chain(3, 2, 5);
        limiting(x, 0, false);
        limiting(x, 1, true);
        limiting(x, 2, false);
        x.setCapacity(2, 2);
        limiting(x, 1, false);
        limiting(x, 2, false);
        FlowNetwork y = Networks.withArcs(3, 0, 1, 1000000, 1, 2, 0, 1, 0, 3, 2, 1, 3);
        y.setEnds(0, 2);
        limiting(y, 0, false);
        limiting(y, 1, true);
        limiting(y, 2, false);
        limiting(y, 3, false);
        y.addArc(0, 2, 1000000);
        limiting(y, 4, true);
        y.setEnds(1, 2);
        limiting(y, 1, true);
        limiting(y, 4, false);
        FlowNetwork z = Networks.withArcs(2, 0, 1, 1000000);
        z.setEnds(0, 1);
        limiting(z, 0, true);
    }

    private static void room(FlowNetwork x, int arc, int want) {
        CHECK.due("headroom " + arc, want, () -> x.headroom(arc));
    }

    private static void headroom() {
        FlowNetwork x = Networks.chain(3, 2, 5);
        long before = x.digest();
        room(x, 0, 0);
        room(x, 1, 1);
        room(x, 2, 0);
        CHECK.due("nothing changes", before, x::digest);
        x.addArc(0, 3, 0);
        x.addArc(3, 0, 9);
        x.addArc(0, 2, 0);
        room(x, 3, -1);
        room(x, 4, 0);
        room(x, 5, 3);
        // More than one arc may have: all that the others bring.
        FlowNetwork y = Networks.withArcs(3, 0, 1, 1000000, 0, 1, 1000000, 0, 1, 1000000, 1, 2, 5);
        y.setEnds(0, 2);
        room(y, 3, 2999995);
        room(y, 0, 0);
        y.setEnds(2, 0);
        room(y, 3, 0);
        greatestHeadroom();
    }

    private static void greatestHeadroom() {
        FlowNetwork x = Networks.withNodes(3);
        for (int arc = 0; arc < 79; arc++) {
            x.addArc(0, 1, 1000000);
        }
        x.addArc(1, 2, 0);
        x.setEnds(0, 2);
        room(x, 79, 79000000);
        x.setCapacity(79, 1000000);
        room(x, 79, 78000000);
        room(x, 0, 0);
        CHECK.due("capacity stays", 1000000, () -> x.capacity(79));
    }

    private static void arcsRefused() {
        FlowNetwork x = Networks.diamond();
        int[] none = {-1, 5, 80, Integer.MIN_VALUE, Integer.MAX_VALUE};
        for (int arc : none) {
            CHECK.due("isBottleneck none", Check.INDEX, () -> x.isBottleneck(arc));
            CHECK.due("isLimiting none", Check.INDEX, () -> x.isLimiting(arc));
            CHECK.due("headroom none", Check.INDEX, () -> x.headroom(arc));
        }
    }
}
