import java.math.BigInteger;
import java.util.Arrays;

/**
 * The boundary cases of promises 25 to 27, and of what the description says of levels: a test for
 * each sentence that names one, on both sides of the boundary.
 */
public final class BoundaryLevelsTest {
    private static final Check CHECK = new Check("BoundaryLevelsTest");
    private static final Unchanged EMPTY = new Unchanged(CHECK, FlowNetwork::new);
    private static final Unchanged USED = new Unchanged(CHECK, Networks::usedDiamond);
    private static final Unchanged FULL = new Unchanged(CHECK, Networks::full);

    public static void main(String[] args) {
        levelsAreAtMost8();
        pushThrowsWith8Levels();
        popThrowsWithoutLevel();
        popRestoresTheLatestNotUndone();
        popRestoresEnds();
        popRestoresTheMaximumAndCuts();
        laterArcsGetTheCapacity0();
        laterArcsOfEachLevel();
        laterArcsKeepTheirNumbers();
        laterNodesStay();
        refusalsDoNotTouchLevels();
        digestOfNothing();
        digestWithoutEnds();
        digestWithEnds();
        digestWrapsAround();
        digestAsks();
        CHECK.end();
    }

    private static FlowNetwork withLevels(int levels) {
        FlowNetwork x = Networks.chain(100, 100);
        for (int level = 0; level < levels; level++) {
            x.push();
            x.setCapacity(0, level);
        }
        return x;
    }

    private static void levelsAreAtMost8() {
        CHECK.sentence("There are at most 8 levels. push: Returns the number of levels afterwards. pop: Returns the number of levels afterwards.");
        FlowNetwork x = new FlowNetwork();
        for (int level = 1; level <= 8; level++) {
            CHECK.due("push", level, x::push);
        }
        CHECK.due("a 9th", Check.STATE, x::push);
        for (int level = 7; level >= 0; level--) {
            CHECK.due("pop", level, x::pop);
        }
        CHECK.due("one too many", Check.STATE, x::pop);
        CHECK.due("the first again", 1, x::push);
    }

    private static void pushThrowsWith8Levels() {
        CHECK.sentence("push: Throws IllegalStateException if there are 8 levels");
        CHECK.due("with none", 1, () -> new FlowNetwork().push());
        CHECK.due("with 7", 8, () -> withLevels(7).push());
        new Unchanged(CHECK, () -> withLevels(8)).due("with 8", Check.STATE, x -> x.push());
        FULL.due("with 8 and all else", Check.STATE, x -> x.push());
        FlowNetwork x = withLevels(8);
        CHECK.due("refused", Check.STATE, x::push);
        CHECK.due("refused again", Check.STATE, x::push);
        CHECK.due("pop", 7, x::pop);
        CHECK.due("capacity of the 8th", 6, () -> x.capacity(0));
        CHECK.due("push after pop", 8, x::push);
        CHECK.due("refused once more", Check.STATE, x::push);
    }

    private static void popThrowsWithoutLevel() {
        CHECK.sentence("pop: Throws IllegalStateException if there is no level");
        EMPTY.due("of a new object", Check.STATE, x -> x.pop());
        new Unchanged(CHECK, Networks::diamond).due("never pushed", Check.STATE, x -> x.pop());
        new Unchanged(CHECK, () -> {
            FlowNetwork x = Networks.usedDiamond();
            x.pop();
            x.pop();
            x.pop();
            x.setEnds(0, 3);
            return x;
        }).due("all popped", Check.STATE, x -> x.pop());
        CHECK.due("with one", 0, () -> withLevels(1).pop());
        CHECK.due("with 8", 7, () -> withLevels(8).pop());
    }

    private static void popRestoresTheLatestNotUndone() {
        CHECK.sentence("pop restores what the latest push that has not been undone by a pop has stored");
        FlowNetwork x = Networks.chain(10, 100);
        x.push();
        x.setCapacity(0, 20);
        x.push();
        x.setCapacity(0, 30);
        CHECK.due("the second", 1, x::pop);
        CHECK.due("what it stored", 20, () -> x.capacity(0));
        x.setCapacity(0, 40);
        CHECK.due("a third in its place", 2, x::push);
        x.setCapacity(0, 50);
        CHECK.due("pop the third", 1, x::pop);
        CHECK.due("what it stored", 40, () -> x.capacity(0));
        CHECK.due("maximum", 40, x::maximum);
        CHECK.due("pop the first", 0, x::pop);
        CHECK.due("what it stored", 10, () -> x.capacity(0));
        CHECK.due("maximum", 10, x::maximum);
        FlowNetwork y = withLevels(8);
        for (int level = 7; level > 0; level--) {
            y.pop();
            CHECK.due("level " + level, level - 1, () -> y.capacity(0));
            CHECK.due("maximum", level - 1, y::maximum);
        }
        y.pop();
        CHECK.due("the last level", 100, () -> y.capacity(0));
    }

    private static void popRestoresEnds() {
        CHECK.sentence("push stores which nodes are the source and the sink");
        FlowNetwork x = Networks.endlessDiamond();
        x.push();
        x.setEnds(0, 3);
        x.push();
        x.setEnds(3, 0);
        CHECK.due("turned", 0, x::maximum);
        x.pop();
        CHECK.due("turned back", 8, x::maximum);
        CHECK.due("the same", false, () -> x.setEnds(0, 3));
        x.pop();
        CHECK.due("none", Check.STATE, x::maximum);
        CHECK.due("no cut", Check.STATE, () -> x.cutCapacity(1));
        CHECK.due("none before", true, () -> x.setEnds(0, 3));
        CHECK.due("maximum", 8, x::maximum);
    }

    private static void popRestoresTheMaximumAndCuts() {
        CHECK.sentence("push stores the capacities of all arcs");
        for (int arc = 0; arc < 80; arc++) {
            FlowNetwork x = Networks.full();
            x.pop();
            x.push();
            long before = x.digest();
            x.setCapacity(arc, arc % 2 == 0 ? 0 : 1000000);
            x.maximum();
            int changed = arc;
            CHECK.due("arc " + arc + " has changed", true, () -> x.digest() != before);
            CHECK.due("pop", 7, x::pop);
            CHECK.due("level", 8, x::push);
            CHECK.due("arc " + changed + " is back", before, x::digest);
        }
    }

    private static void laterArcsGetTheCapacity0() {
        CHECK.sentence("Arcs that were created since then get the capacity 0");
        FlowNetwork x = Networks.withNodes(2);
        x.setEnds(0, 1);
        x.push();
        for (int arc = 0; arc < 80; arc++) {
            x.addArc(0, 1, 1000000);
        }
        CHECK.due("80 arcs", 80000000, x::maximum);
        CHECK.due("pop", 0, x::pop);
        CHECK.due("maximum", 0, x::maximum);
        CHECK.due("utilization", 0.0, x::utilization);
        for (int arc = 0; arc < 80; arc++) {
            int later = arc;
            CHECK.due("capacity " + arc, 0, () -> x.capacity(later));
        }
        CHECK.due("a later one gets another", 0, () -> x.setCapacity(79, 7));
        CHECK.due("maximum", 7, x::maximum);
        FlowNetwork y = Networks.diamond();
        y.addArc(0, 3, 9);
        y.push();
        y.addArc(0, 3, 9);
        y.pop();
        CHECK.due("the last before", 9, () -> y.capacity(5));
        CHECK.due("the first since", 0, () -> y.capacity(6));
        CHECK.due("maximum", 17, y::maximum);
    }

    private static void laterArcsOfEachLevel() {
        CHECK.sentence("Arcs that were created since then: since the push that pop undoes");
        FlowNetwork x = Networks.withNodes(2);
        x.setEnds(0, 1);
        for (int level = 0; level < 8; level++) {
            x.push();
            x.addArc(0, 1, 1 << level);
        }
        CHECK.due("all", 255, x::maximum);
        for (int level = 7; level >= 0; level--) {
            CHECK.due("pop", level, x::pop);
            CHECK.due("those before level " + level, (1 << level) - 1, x::maximum);
        }
        FlowNetwork y = Networks.withNodes(2);
        y.setEnds(0, 1);
        y.push();
        y.addArc(0, 1, 5);
        y.pop();
        y.push();
        y.setCapacity(0, 3);
        y.addArc(0, 1, 4);
        y.push();
        CHECK.due("maximum", 7, y::maximum);
        y.pop();
        CHECK.due("created before the latest push", 7, y::maximum);
        y.pop();
        CHECK.due("created since the first", 0, y::maximum);
    }

    private static void laterArcsKeepTheirNumbers() {
        CHECK.sentence("Arcs that were created since then keep their numbers");
        FlowNetwork x = Networks.diamond();
        x.push();
        CHECK.due("addArc", 5, () -> x.addArc(0, 3, 9));
        x.pop();
        CHECK.due("arcCount", 6, x::arcCount);
        CHECK.due("addArc", 6, () -> x.addArc(3, 0, 9));
        CHECK.due("setCapacity", 0, () -> x.setCapacity(5, 4));
        CHECK.due("it leads where it led", 12, x::maximum);
        CHECK.due("from the source to the sink", -1, () -> x.headroom(5));
    }

    private static void laterNodesStay() {
        CHECK.sentence("push stores the capacities of all arcs, and which nodes are the source and the sink: not the nodes");
        FlowNetwork x = Networks.diamond();
        x.push();
        CHECK.due("addNode", 4, x::addNode);
        x.addArc(3, 4, 6);
        x.setEnds(0, 4);
        CHECK.due("to the new node", 6, x::maximum);
        x.pop();
        CHECK.due("nodeCount", 5, x::nodeCount);
        CHECK.due("addNode", 5, x::addNode);
        CHECK.due("greatestCut has the new nodes", 7 + 16 + 32, x::greatestCut);
        CHECK.due("arcs to a new node are broken", 0, () -> x.maximumBetween(0, 4));
    }

    private static void refusalsDoNotTouchLevels() {
        CHECK.sentence("A method that throws an exception changes nothing.");
        Unchanged.Call[] refused = {
            x -> x.addArc(0, 0, 1), x -> x.addArc(0, 9, 1), x -> x.addArc(0, 1, -1),
            x -> x.setCapacity(6, 1), x -> x.setCapacity(0, -1), x -> x.scale(4, 1.0), x -> x.scale(0, -1.0),
            x -> x.setEnds(0, 4), x -> x.setEnds(2, 2), x -> x.capacity(6), x -> x.maximumWith(6, 1),
            x -> x.maximumWith(0, -1), x -> x.maximumWithout(4), x -> x.maximumBetween(0, 4),
            x -> x.maximumBetween(2, 2), x -> x.leastFlow(6), x -> x.greatestFlow(6), x -> x.cutCapacity(0),
            x -> x.cut(2), x -> x.isBottleneck(6), x -> x.isLimiting(6), x -> x.headroom(6)
        };
        new Unchanged(CHECK, Networks::usedDiamond).due("one after the other", refused.length, x -> {
            int count = 0;
            for (Unchanged.Call call : refused) {
                count += Check.answer(() -> call.on(x)).startsWith("throws.") ? 1 : 0;
            }
            return count;
        });
        new Unchanged(CHECK, Networks::full).due("with all there can be", 3, x -> {
            String answers = Check.answer(x::push) + Check.answer(x::addNode) + Check.answer(() -> x.addArc(0, 1, 1));
            return answers.split("throws", -1).length - 1;
        });
    }

    /** What the checksum is by the rules of large integers, without any wrapping around. */
    private static BigInteger unwrapped(long... numbers) {
        BigInteger sum = BigInteger.valueOf(37);
        for (long number : numbers) {
            sum = sum.multiply(BigInteger.valueOf(31)).add(BigInteger.valueOf(number));
        }
        return sum;
    }

    private static void digests(String name, FlowNetwork x, long... numbers) {
        CHECK.due(name, unwrapped(numbers).longValue(), x::digest);
    }

    private static void digestOfNothing() {
        CHECK.sentence("digest: A number d starts with 37; the number of nodes, of arcs and of levels");
        digests("nothing", new FlowNetwork(), 0, 0, 0, -1, -1);
        digests("a node", Networks.withNodes(1), 1, 0, 0, -1, -1);
        digests("24 nodes", Networks.withNodes(24), 24, 0, 0, -1, -1);
        FlowNetwork x = new FlowNetwork();
        for (int level = 1; level <= 8; level++) {
            x.push();
            digests("levels", x, 0, 0, level, -1, -1);
        }
        CHECK.due("a 9th", Check.STATE, x::push);
        digests("8 levels", x, 0, 0, 8, -1, -1);
    }

    private static void digestWithoutEnds() {
        CHECK.sentence("digest: the source and the sink, -1 and -1 if none are chosen");
        FlowNetwork x = Networks.withArcs(2, 0, 1, 0, 1, 0, 1000000);
        digests("never chosen", x, 2, 2, 0, 0, 1000000, -1, -1);
        x.push();
        x.setEnds(1, 0);
        digests("chosen", x, 2, 2, 1, 0, 1000000, 1, 0, 1000000, 2, 2);
        x.pop();
        digests("taken back", x, 2, 2, 0, 0, 1000000, -1, -1);
        CHECK.due("refused", Check.ARGUMENT, () -> x.setEnds(0, 0));
        digests("still none", x, 2, 2, 0, 0, 1000000, -1, -1);
    }

    private static void digestWithEnds() {
        CHECK.sentence("digest: and, if they are chosen, the maximum and the masks of the smallest and of the greatest minimum cut");
        FlowNetwork x = Networks.withNodes(24);
        x.setEnds(0, 23);
        digests("no arcs", x, 24, 0, 0, 0, 23, 0, 1, (1 << 23) - 1);
        x.setEnds(23, 0);
        digests("turned", x, 24, 0, 0, 23, 0, 0, 1 << 23, (1 << 24) - 2);
        digests("two cuts", Networks.chain(2, 2), 3, 2, 0, 2, 2, 0, 2, 2, 1, 3);
        digests("one cut", Networks.chain(2, 1), 3, 2, 0, 2, 1, 0, 2, 1, 3, 3);
    }

    private static void digestWrapsAround() {
        CHECK.sentence("digest: which wraps around as a 64-bit integer");
        BigInteger most = BigInteger.valueOf(Long.MAX_VALUE);
        for (int arcs = 0; arcs <= 80; arcs++) {
            long[] numbers = new long[arcs + 5];
            FlowNetwork x = Networks.withNodes(2);
            numbers[0] = 2;
            numbers[1] = arcs;
            for (int arc = 0; arc < arcs; arc++) {
                numbers[3 + arc] = 1000000 - arc;
                x.addArc(0, 1, 1000000 - arc);
            }
            numbers[arcs + 3] = -1;
            numbers[arcs + 4] = -1;
            digests(arcs + " arcs", x, numbers);
            boolean fits = unwrapped(numbers).compareTo(most) <= 0;
            int count = arcs;
            CHECK.due("up to 6 arcs it does not wrap around", count <= 6, () -> fits);
        }
        digests("all there can be", full80(), full80Numbers());
    }

    private static FlowNetwork full80() {
        FlowNetwork x = Networks.withNodes(24);
        for (int arc = 0; arc < 80; arc++) {
            x.addArc(23, 0, 1000000);
        }
        x.setEnds(23, 0);
        for (int level = 0; level < 8; level++) {
            x.push();
        }
        return x;
    }

    private static long[] full80Numbers() {
        long[] numbers = new long[88];
        Arrays.fill(numbers, 1000000);
        long[] first = {24, 80, 8};
        long[] last = {23, 0, 80000000, 1 << 23, (1 << 24) - 2};
        System.arraycopy(first, 0, numbers, 0, 3);
        System.arraycopy(last, 0, numbers, 83, 5);
        return numbers;
    }

    private static void digestAsks() {
        CHECK.sentence("digest: Computes a checksum.");
        EMPTY.due("of nothing", unwrapped(0, 0, 0, -1, -1).longValue(), x -> x.digest());
        USED.due("of a used object", Networks.usedDiamond().digest(), x -> x.digest());
        FULL.due("of all there can be", Networks.full().digest(), x -> x.digest());
    }
}
