import java.util.ArrayList;
import java.util.List;

/**
 * The document in its slowest form, to compare with: it looks at every set of nodes, and knows
 * nothing of flows but their value, which is the least capacity of a cut, and their range on an
 * arc, which follows from the same sets (Hoffman: numbers between bounds that lead as much to each
 * node as from it exist just if no set of nodes must send out more than it can take in).
 */
final class Model {
    /** An arc with its capacity. */
    private static final class Arc {
        private final int tail;
        private final int head;
        private final long capacity;

        private Arc(int tail, int head, long capacity) {
            this.tail = tail;
            this.head = head;
            this.capacity = capacity;
        }

        private Arc with(long other) {
            return new Arc(tail, head, other);
        }

        private boolean leaves(int set) {
            return has(set, tail) && !has(set, head);
        }

        private boolean enters(int set) {
            return has(set, head) && !has(set, tail);
        }
    }

    /** What a level stores. */
    private static final class Level {
        private final List<Arc> arcs;
        private final int source;
        private final int sink;

        private Level(List<Arc> arcs, int source, int sink) {
            this.arcs = arcs;
            this.source = source;
            this.sink = sink;
        }
    }

    private int nodes;
    private List<Arc> arcs = new ArrayList<>();
    private int source = -1;
    private int sink = -1;
    private final List<Level> levels = new ArrayList<>();
    private List<Integer> kept = new ArrayList<>();

    private static boolean has(int set, int node) {
        return (set >> node & 1) != 0;
    }

    private static void index(boolean allowed) {
        if (!allowed) {
            throw new IndexOutOfBoundsException();
        }
    }

    private static void argument(boolean allowed) {
        if (!allowed) {
            throw new IllegalArgumentException();
        }
    }

    private static void state(boolean allowed) {
        if (!allowed) {
            throw new IllegalStateException();
        }
    }

    private boolean isNode(int node) {
        return node >= 0 && node < nodes;
    }

    private boolean isArc(int arc) {
        return arc >= 0 && arc < arcs.size();
    }

    private static boolean isCapacity(int capacity) {
        return capacity >= 0 && capacity <= 1000000;
    }

    private static boolean isCut(int set, int from, int to) {
        return has(set, from) && !has(set, to);
    }

    private static long leaving(int set, List<Arc> among) {
        long sum = 0;
        for (Arc arc : among) {
            sum += arc.leaves(set) ? arc.capacity : 0;
        }
        return sum;
    }

    private long value(List<Arc> among, int from, int to) {
        long least = Long.MAX_VALUE;
        for (int set = 0; set < 1 << nodes; set++) {
            if (isCut(set, from, to)) {
                least = Math.min(least, leaving(set, among));
            }
        }
        return least;
    }

    private long value(int arc, long capacity) {
        List<Arc> others = new ArrayList<>(arcs);
        others.set(arc, arcs.get(arc).with(capacity));
        return value(others, source, sink);
    }

    private List<Integer> minimumCuts() {
        List<Integer> found = new ArrayList<>();
        long least = value(arcs, source, sink);
        for (int set = 0; set < 1 << nodes; set++) {
            if (isCut(set, source, sink) && leaving(set, arcs) == least) {
                found.add(set);
            }
        }
        return found;
    }

    Object addNode() {
        state(nodes < 24);
        return nodes++;
    }

    Object addArc(int tail, int head, int capacity) {
        index(isNode(tail) && isNode(head));
        argument(tail != head && isCapacity(capacity));
        state(arcs.size() < 80);
        arcs.add(new Arc(tail, head, capacity));
        return arcs.size() - 1;
    }

    Object setCapacity(int arc, int capacity) {
        index(isArc(arc));
        argument(isCapacity(capacity));
        return arcs.set(arc, arcs.get(arc).with(capacity)).capacity;
    }

    Object scale(int node, double fraction) {
        index(isNode(node));
        argument(fraction >= 0 && fraction <= 1000);
        int changed = 0;
        for (int arc = 0; arc < arcs.size(); arc++) {
            Arc before = arcs.get(arc);
            long after = (long) Math.min(1000000, Math.rint(before.capacity * fraction));
            if (before.tail == node && before.capacity != after) {
                arcs.set(arc, before.with(after));
                changed++;
            }
        }
        return changed;
    }

    Object setEnds(int newSource, int newSink) {
        index(isNode(newSource) && isNode(newSink));
        argument(newSource != newSink);
        boolean others = newSource != source || newSink != sink;
        source = newSource;
        sink = newSink;
        return others;
    }

    Object nodeCount() {
        return nodes;
    }

    Object arcCount() {
        return arcs.size();
    }

    Object capacity(int arc) {
        index(isArc(arc));
        return arcs.get(arc).capacity;
    }

    Object maximum() {
        state(source >= 0);
        return value(arcs, source, sink);
    }

    Object maximumWith(int arc, int capacity) {
        state(source >= 0);
        index(isArc(arc));
        argument(isCapacity(capacity));
        return value(arc, capacity);
    }

    Object maximumWithout(int node) {
        state(source >= 0);
        index(isNode(node));
        List<Arc> others = new ArrayList<>();
        for (Arc arc : arcs) {
            others.add(arc.tail == node || arc.head == node ? arc.with(0) : arc);
        }
        return value(others, source, sink);
    }

    Object maximumBetween(int from, int to) {
        index(isNode(from) && isNode(to));
        argument(from != to);
        return value(arcs, from, to);
    }

    Object utilization() {
        state(source >= 0);
        long sum = leaving(1 << source, arcs);
        return sum == 0 ? 0.0 : (double) value(arcs, source, sink) / sum;
    }

    /** How much more must leave a set, or less if it is negative, than all arcs but one bring in. */
    private long needed(int set, Arc except) {
        long value = value(arcs, source, sink);
        long needed = 0;
        if (has(set, sink) && !has(set, source)) {
            needed += value;
        }
        if (has(set, source) && !has(set, sink)) {
            needed -= value;
        }
        for (Arc arc : arcs) {
            needed -= arc != except && arc.enters(set) ? arc.capacity : 0;
        }
        return needed;
    }

    Object leastFlow(int number) {
        state(source >= 0);
        index(isArc(number));
        Arc arc = arcs.get(number);
        long least = 0;
        for (int set = 0; set < 1 << nodes; set++) {
            if (arc.enters(set)) {
                least = Math.max(least, needed(set, arc));
            }
        }
        return least;
    }

    Object greatestFlow(int number) {
        state(source >= 0);
        index(isArc(number));
        Arc arc = arcs.get(number);
        long greatest = arc.capacity;
        for (int set = 0; set < 1 << nodes; set++) {
            if (arc.leaves(set)) {
                greatest = Math.min(greatest, -needed(set, arc));
            }
        }
        return greatest;
    }

    Object cutCapacity(int mask) {
        state(source >= 0);
        argument(mask >= 0 && mask < 1 << nodes && isCut(mask, source, sink));
        return leaving(mask, arcs);
    }

    Object smallestCut() {
        state(source >= 0);
        int mask = -1;
        for (int cut : minimumCuts()) {
            mask &= cut;
        }
        return mask;
    }

    Object greatestCut() {
        state(source >= 0);
        int mask = 0;
        for (int cut : minimumCuts()) {
            mask |= cut;
        }
        return mask;
    }

    Object findCuts() {
        state(source >= 0);
        List<Integer> found = minimumCuts();
        kept = found.subList(0, Math.min(300, found.size()));
        return kept.size();
    }

    Object cut(int index) {
        index(index >= 0 && index < kept.size());
        return kept.get(index);
    }

    Object isBottleneck(int arc) {
        state(source >= 0);
        index(isArc(arc));
        boolean crossing = false;
        for (int cut : minimumCuts()) {
            crossing |= arcs.get(arc).leaves(cut);
        }
        return crossing && arcs.get(arc).capacity != 0;
    }

    Object isLimiting(int arc) {
        state(source >= 0);
        index(isArc(arc));
        return value(arc, arcs.get(arc).capacity + 1) > value(arcs, source, sink);
    }

    Object headroom(int arc) {
        state(source >= 0);
        index(isArc(arc));
        long huge = 1000000000000L;
        long value = value(arc, huge);
        return value >= huge ? -1 : value - value(arcs, source, sink);
    }

    Object push() {
        state(levels.size() < 8);
        levels.add(new Level(new ArrayList<>(arcs), source, sink));
        return levels.size();
    }

    Object pop() {
        state(!levels.isEmpty());
        Level level = levels.remove(levels.size() - 1);
        for (int arc = level.arcs.size(); arc < arcs.size(); arc++) {
            level.arcs.add(arcs.get(arc).with(0));
        }
        arcs = level.arcs;
        source = level.source;
        sink = level.sink;
        return levels.size();
    }

    Object digest() {
        long sum = 37;
        sum = sum * 31 + nodes;
        sum = sum * 31 + arcs.size();
        sum = sum * 31 + levels.size();
        for (Arc arc : arcs) {
            sum = sum * 31 + arc.capacity;
        }
        sum = (sum * 31 + source) * 31 + sink;
        if (source >= 0) {
            sum = sum * 31 + (long) maximum();
            sum = sum * 31 + (int) smallestCut();
            sum = sum * 31 + (int) greatestCut();
        }
        return sum;
    }
}
