import java.util.List;

/**
 * The boundary cases of promises 17 to 24, and of what the description says of cuts: a test for
 * each sentence that names one, on both sides of the boundary.
 */
public final class BoundaryCutsTest {
    private static final Check CHECK = new Check("BoundaryCutsTest");
    private static final Unchanged ENDLESS = new Unchanged(CHECK, Networks::endlessDiamond);
    private static final Unchanged DIAMOND = new Unchanged(CHECK, Networks::diamond);
    private static final Unchanged USED = new Unchanged(CHECK, Networks::usedDiamond);
    private static final Unchanged FULL = new Unchanged(CHECK, Networks::full);
    private static final Unchanged KEPT = new Unchanged(CHECK, BoundaryCutsTest::keptWithoutEnds);
    private static final Unchanged NO_ARCS = new Unchanged(CHECK, () -> withoutArcs(3));

    public static void main(String[] args) {
        cutsHaveTheSourceAndNotTheSink();
        cutCapacityCountsArcsThatLeave();
        cutCapacityThrowsWithoutEnds();
        cutCapacityThrowsForNoCut();
        smallestAndGreatestCut();
        smallestAndGreatestThrowWithoutEnds();
        findCutsKeepsAtMost300();
        findCutsKeepsTheSmallestMasks();
        findCutsKeepsUntilTheNextSuccess();
        findCutsIsNotAffectedByChanges();
        findCutsThrowsWithoutEnds();
        cutThrowsWithoutTheIndex();
        cutThrowsIfNoneAreKept();
        bottlenecksAreNot0();
        limitingIsByOne();
        headroomAbove1000000();
        headroomFromSourceToSink();
        arcsThrowWithoutEnds();
        arcsThrowWithoutTheArc();
        arcsThrowWhatIsNamedFirst();
        CHECK.end();
    }

    private static FlowNetwork withoutArcs(int nodes) {
        FlowNetwork x = Networks.withNodes(nodes);
        x.setEnds(0, nodes - 1);
        return x;
    }

    /** Two cuts are kept, and then the ends are taken back. */
    private static FlowNetwork keptWithoutEnds() {
        FlowNetwork x = Networks.withArcs(3, 0, 1, 2, 1, 2, 2);
        x.push();
        x.setEnds(0, 2);
        x.findCuts();
        x.pop();
        return x;
    }

    private static void cutsHaveTheSourceAndNotTheSink() {
        CHECK.sentence("A cut is a set of nodes that contains the source and not the sink. Its mask is the sum of the powers 2^v for all its nodes v.");
        FlowNetwork x = Networks.diamond();
        for (int mask = 0; mask < 16; mask++) {
            int set = mask;
            boolean isCut = (mask & 1) == 1 && (mask & 8) == 0;
            String answer = Check.answer(() -> x.cutCapacity(set));
            CHECK.due("mask " + mask, !isCut, () -> answer.equals(Check.ARGUMENT));
        }
        FlowNetwork y = Networks.withNodes(24);
        y.addArc(23, 0, 9);
        y.setEnds(23, 0);
        CHECK.due("the last node alone", 9, () -> y.cutCapacity(1 << 23));
        CHECK.due("all but the first node", 9, () -> y.cutCapacity((1 << 24) - 2));
        CHECK.due("all nodes", Check.ARGUMENT, () -> y.cutCapacity((1 << 24) - 1));
        CHECK.due("all but the last node", Check.ARGUMENT, () -> y.cutCapacity((1 << 23) - 2));
    }

    private static void cutCapacityCountsArcsThatLeave() {
        CHECK.sentence("Its capacity is the sum of the capacities of all arcs that lead from a node of the cut to a node outside.");
        Unchanged three = new Unchanged(CHECK, () -> {
            FlowNetwork x = Networks.withArcs(3, 0, 1, 1, 1, 0, 2, 1, 2, 4, 2, 1, 8, 0, 2, 16, 2, 0, 32, 0, 1, 0);
            x.setEnds(0, 2);
            return x;
        });
        three.due("the source alone", 17, x -> x.cutCapacity(1));
        three.due("all but the sink", 20, x -> x.cutCapacity(3));
        NO_ARCS.due("without arcs", 0, x -> x.cutCapacity(1));
        FlowNetwork x = Networks.withNodes(24);
        for (int arc = 0; arc < 80; arc++) {
            x.addArc(arc % 12, 12 + arc % 11, 1000000);
        }
        x.setEnds(0, 23);
        CHECK.due("80 arcs", 80000000, () -> x.cutCapacity((1 << 12) - 1));
        CHECK.due("80 arcs within", 0, () -> x.cutCapacity((1 << 23) - 1));
    }

    private static void cutCapacityThrowsWithoutEnds() {
        CHECK.sentence("cutCapacity: Throws IllegalStateException if no source and sink are chosen");
        int[] masks = {1, 0, 15, 16, -1, Edges.LOWEST, Edges.HIGHEST};
        ENDLESS.due("mask 1", Check.STATE, x -> x.cutCapacity(1));
        KEPT.due("mask 1, ends taken back", Check.STATE, x -> x.cutCapacity(1));
        CHECK.sentence("cutCapacity: If several exceptions apply, the one that is named first is thrown.");
        for (int mask : masks) {
            ENDLESS.due("mask " + mask, Check.STATE, x -> x.cutCapacity(mask));
        }
        new Unchanged(CHECK, FlowNetwork::new).due("no nodes", Check.STATE, x -> x.cutCapacity(0));
    }

    private static void cutCapacityThrowsForNoCut() {
        CHECK.sentence("cutCapacity: Throws IllegalArgumentException if mask is not the mask of a cut");
        int[] wrong = {
            0, 2, 6, 8, 9, 14, 15, 16, 17, 23, 1 | 1 << 23, 1 | 1 << 24, 1 | 1 << 30,
            -1, -9, -15, Edges.LOWEST, Edges.LOWEST | 1, Edges.HIGHEST, Edges.HIGHEST - 8
        };
        for (int mask : wrong) {
            USED.due("mask " + mask, Check.ARGUMENT, x -> x.cutCapacity(mask));
        }
        int[] masks = {1, 3, 5, 7};
        int[] want = {14, 12, 21, 17};
        for (int i = 0; i < masks.length; i++) {
            int mask = masks[i];
            USED.due("mask " + mask, want[i], x -> x.cutCapacity(mask));
        }
        FULL.due("a 25th node", Check.ARGUMENT, x -> x.cutCapacity(1 << 24 | 1 << 7));
        FULL.due("with the sink", Check.ARGUMENT, x -> x.cutCapacity(1 << 16 | 1 << 7));
        FlowNetwork x = Networks.diamond();
        CHECK.due("before its node", Check.ARGUMENT, () -> x.cutCapacity(17));
        x.addNode();
        CHECK.due("after its node", 8, () -> x.cutCapacity(17));
        CHECK.due("the next node", Check.ARGUMENT, () -> x.cutCapacity(33));
    }

    private static void smallestAndGreatestCut() {
        CHECK.sentence("There is a smallest minimum cut, which is a subset of all others, and a greatest one, of which all others are subsets.");
        for (int nodes = 2; nodes <= 24; nodes++) {
            int last = nodes - 1;
            Unchanged apart = new Unchanged(CHECK, () -> withoutArcs(last + 1));
            apart.due("smallest without arcs", 1, x -> x.smallestCut());
            apart.due("greatest without arcs", (1 << last) - 1, x -> x.greatestCut());
        }
        FlowNetwork x = Networks.withNodes(24);
        x.setEnds(23, 0);
        CHECK.due("smallest, turned", 1 << 23, x::smallestCut);
        CHECK.due("greatest, turned", (1 << 24) - 2, x::greatestCut);
        Unchanged one = new Unchanged(CHECK, () -> Networks.chain(5, 4, 5));
        one.due("smallest of one", 3, y -> y.smallestCut());
        one.due("greatest of one", 3, y -> y.greatestCut());
        FlowNetwork z = Networks.withNodes(24);
        for (int node = 0; node < 23; node++) {
            z.addArc(node, node + 1, 1000000);
        }
        z.setEnds(0, 23);
        CHECK.due("smallest of 23", 1, z::smallestCut);
        CHECK.due("greatest of 23", (1 << 23) - 1, z::greatestCut);
        z.setCapacity(22, 999999);
        CHECK.due("smallest at the end", (1 << 23) - 1, z::smallestCut);
        z.setCapacity(0, 999998);
        CHECK.due("greatest at the start", 1, z::greatestCut);
    }

    private static void smallestAndGreatestThrowWithoutEnds() {
        CHECK.sentence("smallestCut, greatestCut: Throws IllegalStateException if no source and sink are chosen");
        ENDLESS.due("smallestCut", Check.STATE, x -> x.smallestCut());
        ENDLESS.due("greatestCut", Check.STATE, x -> x.greatestCut());
        KEPT.due("smallestCut, ends taken back", Check.STATE, x -> x.smallestCut());
        KEPT.due("greatestCut, ends taken back", Check.STATE, x -> x.greatestCut());
        DIAMOND.due("smallestCut, ends chosen", 1, x -> x.smallestCut());
        DIAMOND.due("greatestCut, ends chosen", 7, x -> x.greatestCut());
    }

    private static void keeps(String name, ManyCuts many, int all) {
        for (int turn = 0; turn < 2; turn++) {
            List<Integer> masks = many.masks(turn == 1);
            FlowNetwork x = many.made(turn == 1);
            int kept = Math.min(all, 300);
            CHECK.due(name + " are there", all, masks::size);
            CHECK.due(name + " are found", kept, x::findCuts);
            for (int i = 0; i < kept; i++) {
                int index = i;
                CHECK.due("cut " + i + " of " + name, masks.get(i), () -> x.cut(index));
            }
            CHECK.due("behind the last of " + name, Check.INDEX, () -> x.cut(kept));
            CHECK.due("smallest of " + name, masks.get(0), x::smallestCut);
            CHECK.due("greatest of " + name, masks.get(all - 1), x::greatestCut);
        }
    }

    private static void findCutsKeepsAtMost300() {
        CHECK.sentence("findCuts: if there are more than 300, it keeps the 300 smallest masks. Returns how many are kept.");
        keeps("299 cuts", ManyCuts.of299(), 299);
        keeps("300 cuts", ManyCuts.of300(), 300);
        keeps("301 cuts", ManyCuts.of301(), 301);
        CHECK.due("one cut", 1, () -> Networks.chain(5, 4, 5).findCuts());
        CHECK.due("one cut of two nodes", 1, () -> withoutArcs(2).findCuts());
        CHECK.due("two cuts of three nodes", 2, () -> withoutArcs(3).findCuts());
        CHECK.due("256 cuts of ten nodes", 256, () -> withoutArcs(10).findCuts());
        CHECK.due("300 of 512 cuts", 300, () -> withoutArcs(11).findCuts());
        CHECK.due("300 of 4194304 cuts", 300, () -> withoutArcs(24).findCuts());
    }

    private static void findCutsKeepsTheSmallestMasks() {
        CHECK.sentence("findCuts: Finds all minimum cuts and keeps their masks, in ascending order");
        FlowNetwork x = Networks.withNodes(24);
        x.setEnds(23, 0);
        CHECK.due("of 4194304", 300, x::findCuts);
        for (int i = 0; i < 300; i++) {
            int index = i;
            CHECK.due("cut " + i, (1 << 23) + 2 * i, () -> x.cut(index));
        }
        // The nodes from 1 on follow node 22, so that the smallest masks are spread far.
        FlowNetwork y = Networks.withNodes(24);
        for (int node = 1; node < 14; node++) {
            y.addArc(node, 22, 1);
        }
        y.setEnds(23, 0);
        CHECK.due("of many", 300, y::findCuts);
        int base = 1 << 23;
        for (int i = 0; i < 256; i++) {
            int index = i;
            CHECK.due("cut " + i + " without node 22", base + (i << 14), () -> y.cut(index));
        }
        for (int i = 256; i < 300; i++) {
            int index = i;
            CHECK.due("cut " + i + " with node 22", base + (1 << 22) + 2 * (i - 256), () -> y.cut(index));
        }
    }

    private static void findCutsKeepsUntilTheNextSuccess() {
        CHECK.sentence("findCuts: keeps their masks until the next successful call of this method");
        KEPT.due("refused", Check.STATE, x -> x.findCuts());
        FlowNetwork x = keptWithoutEnds();
        CHECK.due("refused", Check.STATE, x::findCuts);
        CHECK.due("kept after the refusal", 1, () -> x.cut(0));
        CHECK.due("kept after the refusal", 3, () -> x.cut(1));
        x.setEnds(2, 0);
        CHECK.due("kept before the next success", 3, () -> x.cut(1));
        CHECK.due("the next success", 2, x::findCuts);
        CHECK.due("the others", 4, () -> x.cut(0));
        CHECK.due("the others", 6, () -> x.cut(1));
        x.addArc(2, 1, 1);
        CHECK.due("a success with fewer", 1, x::findCuts);
        CHECK.due("the fewer", 6, () -> x.cut(0));
        CHECK.due("no more of the others", Check.INDEX, () -> x.cut(1));
    }

    private static void findCutsIsNotAffectedByChanges() {
        CHECK.sentence("findCuts: Later changes of the network do not affect what is kept.");
        FlowNetwork x = Networks.chain(2, 2);
        x.push();
        CHECK.due("findCuts", 2, x::findCuts);
        Check.Call[] changes = {
            () -> x.setCapacity(0, 1), () -> x.scale(1, 0.0), x::addNode, () -> x.addArc(0, 2, 7),
            () -> x.setEnds(2, 0), x::push, x::pop, x::pop, x::maximum, x::digest, x::greatestCut,
            () -> x.maximumWith(0, 0), () -> x.maximumWithout(1), () -> x.maximumBetween(1, 2),
            () -> x.headroom(0), () -> x.leastFlow(0), () -> x.cutCapacity(1)
        };
        for (int i = 0; i < changes.length; i++) {
            changes[i].answer();
            CHECK.due("cut 0 after change " + i, 1, () -> x.cut(0));
            CHECK.due("cut 1 after change " + i, 3, () -> x.cut(1));
            CHECK.due("cut 2 after change " + i, Check.INDEX, () -> x.cut(2));
        }
    }

    private static void findCutsThrowsWithoutEnds() {
        CHECK.sentence("findCuts: Throws IllegalStateException if no source and sink are chosen");
        ENDLESS.due("never chosen", Check.STATE, x -> x.findCuts());
        new Unchanged(CHECK, FlowNetwork::new).due("no nodes", Check.STATE, x -> x.findCuts());
        CHECK.due("chosen", 2, () -> Networks.diamond().findCuts());
    }

    private static void cutThrowsWithoutTheIndex() {
        CHECK.sentence("cut: Throws IndexOutOfBoundsException if there is no such index");
        for (int none : Edges.notBelow(2)) {
            USED.due("index " + none, Check.INDEX, x -> x.cut(none));
            KEPT.due("no ends, index " + none, Check.INDEX, x -> x.cut(none));
        }
        USED.due("the first", 1, x -> x.cut(0));
        USED.due("the last", 7, x -> x.cut(1));
        KEPT.due("no ends, the last", 3, x -> x.cut(1));
        FlowNetwork x = withoutArcs(24);
        x.findCuts();
        for (int none : Edges.notBelow(300)) {
            CHECK.due("of 300, index " + none, Check.INDEX, () -> x.cut(none));
        }
        CHECK.due("of 300, the last", 599, () -> x.cut(299));
    }

    private static void cutThrowsIfNoneAreKept() {
        CHECK.sentence("cut: also if none are kept");
        int[] indices = {0, 1, 299, 300, -1, Edges.LOWEST, Edges.HIGHEST};
        for (int index : indices) {
            new Unchanged(CHECK, FlowNetwork::new).due("no nodes, index " + index, Check.INDEX, x -> x.cut(index));
            ENDLESS.due("no ends, index " + index, Check.INDEX, x -> x.cut(index));
            DIAMOND.due("none found yet, index " + index, Check.INDEX, x -> x.cut(index));
        }
        FlowNetwork x = Networks.endlessDiamond();
        CHECK.due("refused", Check.STATE, x::findCuts);
        CHECK.due("none kept by a refusal", Check.INDEX, () -> x.cut(0));
        x.setEnds(0, 3);
        x.findCuts();
        CHECK.due("kept by a success", 1, () -> x.cut(0));
    }

    private static void bottlenecksAreNot0() {
        CHECK.sentence("An arc is a bottleneck if it leads from a node of some minimum cut to a node outside this cut and its capacity is not 0.");
        Unchanged zero = new Unchanged(CHECK, () -> Networks.chain(0, 1));
        zero.due("of capacity 0", false, x -> x.isBottleneck(0));
        zero.due("in no minimum cut", false, x -> x.isBottleneck(1));
        Unchanged one = new Unchanged(CHECK, () -> Networks.chain(1, 1));
        one.due("of capacity 1", true, x -> x.isBottleneck(0));
        one.due("of capacity 1, in another cut", true, x -> x.isBottleneck(1));
        Unchanged beside = new Unchanged(CHECK, () -> {
            FlowNetwork x = Networks.withArcs(3, 0, 1, 3, 0, 1, 0, 1, 2, 4, 1, 0, 3, 2, 1, 4);
            x.setEnds(0, 2);
            return x;
        });
        beside.due("beside one of 0", true, x -> x.isBottleneck(0));
        beside.due("of 0 beside one", false, x -> x.isBottleneck(1));
        beside.due("of one more than it needs", false, x -> x.isBottleneck(2));
        beside.due("into the cut", false, x -> x.isBottleneck(3));
        beside.due("from the sink", false, x -> x.isBottleneck(4));
        CHECK.due("of 1000000", true, () -> Networks.chain(1000000).isBottleneck(0));
        CHECK.due("of 1000000 behind less", false, () -> Networks.chain(999999, 1000000).isBottleneck(1));
    }

    private static void limitingIsByOne() {
        CHECK.sentence("An arc is limiting if the maximum would be greater if the capacity of this arc alone were greater by 1.");
        Unchanged unequal = new Unchanged(CHECK, () -> Networks.chain(4, 5));
        unequal.due("one less", true, x -> x.isLimiting(0));
        unequal.due("one more", false, x -> x.isLimiting(1));
        Unchanged equal = new Unchanged(CHECK, () -> Networks.chain(5, 5));
        equal.due("the same, first", false, x -> x.isLimiting(0));
        equal.due("the same, last", false, x -> x.isLimiting(1));
        CHECK.due("of 0", true, () -> Networks.chain(0, 1).isLimiting(0));
        CHECK.due("of 0 before 0", false, () -> Networks.chain(0, 0).isLimiting(0));
        CHECK.due("from the source to the sink, of 0", true, () -> Networks.chain(0).isLimiting(0));
        CHECK.due("from the source to the sink, of 1000000", true, () -> Networks.chain(1000000).isLimiting(0));
        FlowNetwork x = Networks.withArcs(3, 0, 1, 1000000, 0, 1, 1, 1, 2, 1000000);
        x.setEnds(0, 2);
        CHECK.due("of 1000000 with 1 more before it", true, () -> x.isLimiting(2));
        x.setCapacity(1, 0);
        CHECK.due("of 1000000 with 0 more before it", false, () -> x.isLimiting(2));
        x.setEnds(2, 0);
        CHECK.due("against the arc", false, () -> x.isLimiting(2));
    }

    private static void headroomAbove1000000() {
        CHECK.sentence("headroom: the greatest maximum that there is with any capacity of this arc (also one above 1000000), minus the maximum now");
        FlowNetwork x = Networks.withNodes(3);
        for (int arc = 0; arc < 79; arc++) {
            x.addArc(0, 1, arc == 0 ? 999999 : arc < 3 ? 1 : 0);
        }
        x.addArc(1, 2, 1000000);
        x.setEnds(0, 2);
        CHECK.due("1000001 before 1000000", 1, () -> x.headroom(79));
        x.setCapacity(1, 0);
        CHECK.due("1000000 before 1000000", 0, () -> x.headroom(79));
        x.scale(0, 0.0);
        CHECK.due("0 before 1000000", 0, () -> x.headroom(79));
        CHECK.due("1000000 behind 0", 1000000, () -> x.headroom(0));
        for (int arc = 0; arc < 79; arc++) {
            x.setCapacity(arc, 1000000);
        }
        CHECK.due("79000000 before 1000000", 78000000, () -> x.headroom(79));
        CHECK.due("1000000 behind 79000000", 0, () -> x.headroom(78));
        FULL.due("the last of 80", Networks.full().headroom(79), y -> y.headroom(79));
    }

    private static void headroomFromSourceToSink() {
        CHECK.sentence("headroom: If the arc leads from the source to the sink, there is no greatest one. Returns -1 if there is no greatest maximum.");
        for (int capacity : Edges.CAPACITIES) {
            Unchanged both = new Unchanged(CHECK, () -> {
                FlowNetwork x = Networks.withArcs(3, 0, 2, capacity, 2, 0, capacity, 0, 2, 1, 0, 1, 1, 1, 2, 1);
                x.setEnds(0, 2);
                return x;
            });
            both.due("source to sink of " + capacity, -1, x -> x.headroom(0));
            both.due("sink to source of " + capacity, 0, x -> x.headroom(1));
            both.due("another from source to sink", -1, x -> x.headroom(2));
            both.due("source to another", 0, x -> x.headroom(3));
            both.due("another to sink", 0, x -> x.headroom(4));
        }
        FlowNetwork x = Networks.withArcs(3, 0, 1, 2, 1, 2, 4);
        x.setEnds(0, 1);
        CHECK.due("the way is the arc", -1, () -> x.headroom(0));
        x.setEnds(1, 0);
        CHECK.due("turned", 0, () -> x.headroom(0));
        x.setEnds(0, 2);
        CHECK.due("the way goes on", 2, () -> x.headroom(0));
    }

    private static void arcsThrowWithoutEnds() {
        CHECK.sentence("isBottleneck, isLimiting, headroom: Throws IllegalStateException if no source and sink are chosen");
        ENDLESS.due("isBottleneck", Check.STATE, x -> x.isBottleneck(0));
        ENDLESS.due("isLimiting", Check.STATE, x -> x.isLimiting(0));
        ENDLESS.due("headroom", Check.STATE, x -> x.headroom(0));
        KEPT.due("isBottleneck, ends taken back", Check.STATE, x -> x.isBottleneck(0));
        KEPT.due("isLimiting, ends taken back", Check.STATE, x -> x.isLimiting(0));
        KEPT.due("headroom, ends taken back", Check.STATE, x -> x.headroom(0));
    }

    private static void arcsThrow(Unchanged maker, String name, String want, int arc) {
        maker.due("isBottleneck" + name + arc, want, x -> x.isBottleneck(arc));
        maker.due("isLimiting" + name + arc, want, x -> x.isLimiting(arc));
        maker.due("headroom" + name + arc, want, x -> x.headroom(arc));
    }

    private static void arcsThrowWithoutTheArc() {
        CHECK.sentence("isBottleneck, isLimiting, headroom: Throws IndexOutOfBoundsException if there is no such arc");
        for (int none : Edges.notBelow(0)) {
            arcsThrow(NO_ARCS, " without arcs, of ", Check.INDEX, none);
        }
        for (int none : Edges.notBelow(6)) {
            arcsThrow(USED, " of ", Check.INDEX, none);
        }
        for (int none : Edges.notBelow(80)) {
            arcsThrow(FULL, " of ", Check.INDEX, none);
        }
        USED.due("isBottleneck of the last", true, x -> x.isBottleneck(5));
        USED.due("isLimiting of the last", true, x -> x.isLimiting(5));
        USED.due("headroom of the last", -1, x -> x.headroom(5));
        USED.due("isBottleneck of the first", false, x -> x.isBottleneck(0));
        USED.due("isLimiting of the first", false, x -> x.isLimiting(0));
        USED.due("headroom of the first", 0, x -> x.headroom(0));
    }

    private static void arcsThrowWhatIsNamedFirst() {
        CHECK.sentence("isBottleneck, isLimiting, headroom: If several exceptions apply, the one that is named first is thrown.");
        for (int none : Edges.notBelow(5)) {
            arcsThrow(ENDLESS, ", no ends, no arc ", Check.STATE, none);
        }
        arcsThrow(new Unchanged(CHECK, FlowNetwork::new), ", no ends, no arcs ", Check.STATE, 0);
    }
}
