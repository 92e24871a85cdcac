import java.util.Arrays;

/**
 * A maximum-flow service for a directed network whose capacities can be changed at any time.
 * It keeps one maximum flow, which it repairs after changes, and answers from what is left of
 * the capacities beside this flow.
 */
public final class FlowNetwork {
    private static final int MOST_NODES = 24;
    private static final int MOST_ARCS = 80;
    private static final int MOST_CAPACITY = 1000000;
    private static final int MOST_FRACTION = 1000;
    private static final int MOST_LEVELS = 8;
    private static final int MOST_CUTS = 300;
    private static final int NO_NODE = -1;

    // More than all arcs together can carry (80 times 1000000), and still far from the end of int.
    private static final int ENDLESS = 100000000;

    // Pushing and relabeling is done long before; the bound only shows that the loop ends.
    private static final int MOST_SWEEPS = 1000000;

    private final Network network;
    private final MaximumFlow current;
    private final MaximumFlow trial;
    private final Levels levels;
    private final Cuts cuts;

    public FlowNetwork() {
        Network shared = new Network();
        network = shared;
        current = new MaximumFlow(shared);
        trial = new MaximumFlow(shared);
        levels = new Levels();
        cuts = new Cuts();
    }

    // ---- network

    public int addNode() throws IllegalStateException {
        if (network.nodes >= MOST_NODES) {
            throw new IllegalStateException("there are 24 nodes");
        }
        return network.makeNode();
    }

    public int addArc(int tail, int head, int capacity)
            throws IndexOutOfBoundsException, IllegalArgumentException, IllegalStateException {
        requireNode(tail);
        requireNode(head);
        requireDifferent(tail, head);
        requireCapacity(capacity);
        if (network.arcs >= MOST_ARCS) {
            throw new IllegalStateException("there are 80 arcs");
        }
        int arc = network.makeArc(tail, head);
        current.changeCapacity(arc, capacity);
        return arc;
    }

    public int setCapacity(int arc, int capacity)
            throws IndexOutOfBoundsException, IllegalArgumentException {
        requireArc(arc);
        requireCapacity(capacity);
        int before = current.flow.capacity[arc];
        current.changeCapacity(arc, capacity);
        return before;
    }

    public int scale(int node, double fraction)
            throws IndexOutOfBoundsException, IllegalArgumentException {
        requireNode(node);
        requireFraction(fraction);
        int changed = 0;
        for (int arc = 0; arc < network.arcs; arc++) {
            int before = current.flow.capacity[arc];
            int after = scaled(before, fraction);
            if (network.tail[arc] == node && after != before) {
                current.changeCapacity(arc, after);
                changed++;
            }
        }
        return changed;
    }

    public boolean setEnds(int source, int sink)
            throws IndexOutOfBoundsException, IllegalArgumentException {
        requireNode(source);
        requireNode(sink);
        requireDifferent(source, sink);
        return current.chooseEnds(source, sink);
    }

    public int nodeCount() {
        return network.nodes;
    }

    public int arcCount() {
        return network.arcs;
    }

    public int capacity(int arc) throws IndexOutOfBoundsException {
        requireArc(arc);
        return current.flow.capacity[arc];
    }

    // ---- the maximum

    public int maximum() throws IllegalStateException {
        requireEnds();
        return current.greatestValue();
    }

    public int maximumWith(int arc, int capacity)
            throws IllegalStateException, IndexOutOfBoundsException, IllegalArgumentException {
        requireEnds();
        requireArc(arc);
        requireCapacity(capacity);
        trial.copy(current);
        trial.changeCapacity(arc, capacity);
        return trial.greatestValue();
    }

    public int maximumWithout(int node) throws IllegalStateException, IndexOutOfBoundsException {
        requireEnds();
        requireNode(node);
        trial.copy(current);
        for (int arc = 0; arc < network.arcs; arc++) {
            if (network.tail[arc] == node || network.head[arc] == node) {
                trial.changeCapacity(arc, 0);
            }
        }
        return trial.greatestValue();
    }

    public int maximumBetween(int source, int sink)
            throws IndexOutOfBoundsException, IllegalArgumentException {
        requireNode(source);
        requireNode(sink);
        requireDifferent(source, sink);
        trial.copy(current);
        trial.chooseEnds(source, sink);
        return trial.greatestValue();
    }

    public double utilization() throws IllegalStateException {
        requireEnds();
        int leaving = current.flow.capacityOut(1 << current.source);
        if (leaving == 0) {
            return 0.0;
        }
        return (double) current.greatestValue() / (double) leaving;
    }

    // ---- flows

    public int leastFlow(int arc) throws IllegalStateException, IndexOutOfBoundsException {
        requireEnds();
        requireArc(arc);
        current.settle();
        int tail = network.tail[arc];
        int amount = current.flow.amount[arc];
        return amount - movable(arc, tail, amount);
    }

    public int greatestFlow(int arc) throws IllegalStateException, IndexOutOfBoundsException {
        requireEnds();
        requireArc(arc);
        current.settle();
        int tail = network.tail[arc];
        int head = network.head[arc];
        return current.flow.amount[arc] + movable(arc, head, current.flow.room(arc, tail));
    }

    // ---- cuts

    public int cutCapacity(int mask) throws IllegalStateException, IllegalArgumentException {
        requireEnds();
        if (!isCut(mask)) {
            throw new IllegalArgumentException("this is not the mask of a cut");
        }
        return current.flow.capacityOut(mask);
    }

    public int smallestCut() throws IllegalStateException {
        requireEnds();
        return current.smallestMask();
    }

    public int greatestCut() throws IllegalStateException {
        requireEnds();
        return current.greatestMask();
    }

    public int findCuts() throws IllegalStateException {
        requireEnds();
        current.settle();
        cuts.find(current);
        return cuts.count;
    }

    public int cut(int index) throws IndexOutOfBoundsException {
        if (index < 0 || index >= cuts.count) {
            throw new IndexOutOfBoundsException("no cut is kept at this index");
        }
        return cuts.masks[index];
    }

    public boolean isBottleneck(int arc) throws IllegalStateException, IndexOutOfBoundsException {
        requireEnds();
        requireArc(arc);
        // The smallest set that is a minimum cut with the tail inside, if there is any such cut.
        int inside = current.smallestMask() | current.flow.reachableFrom(network.tail[arc]);
        return current.flow.capacity[arc] != 0
                && !contains(inside, network.head[arc])
                && !contains(inside, current.sink);
    }

    public boolean isLimiting(int arc) throws IllegalStateException, IndexOutOfBoundsException {
        requireEnds();
        requireArc(arc);
        return contains(current.smallestMask(), network.tail[arc])
                && contains(current.flow.reachableFrom(network.head[arc]), current.sink);
    }

    public int headroom(int arc) throws IllegalStateException, IndexOutOfBoundsException {
        requireEnds();
        requireArc(arc);
        if (network.tail[arc] == current.source && network.head[arc] == current.sink) {
            return -1;
        }
        trial.copy(current);
        trial.changeCapacity(arc, ENDLESS);
        return trial.greatestValue() - current.greatestValue();
    }

    // ---- levels

    public int push() throws IllegalStateException {
        if (levels.count >= MOST_LEVELS) {
            throw new IllegalStateException("there are 8 levels");
        }
        levels.store(current);
        return levels.count;
    }

    public int pop() throws IllegalStateException {
        if (levels.count <= 0) {
            throw new IllegalStateException("there is no level");
        }
        levels.count--;
        int level = levels.count;
        current.chooseEnds(levels.source[level], levels.sink[level]);
        for (int arc = 0; arc < network.arcs; arc++) {
            current.changeCapacity(arc, levels.capacity[level][arc]);
        }
        return level;
    }

    public long digest() {
        long sum = 37L;
        sum = sum * 31L + (long) network.nodes;
        sum = sum * 31L + (long) network.arcs;
        sum = sum * 31L + (long) levels.count;
        for (int arc = 0; arc < network.arcs; arc++) {
            sum = sum * 31L + (long) current.flow.capacity[arc];
        }
        sum = sum * 31L + (long) current.source;
        sum = sum * 31L + (long) current.sink;
        if (current.hasEnds()) {
            sum = sum * 31L + (long) current.greatestValue();
            sum = sum * 31L + (long) current.smallestMask();
            sum = sum * 31L + (long) current.greatestMask();
        }
        return sum;
    }

    // ---- what several methods ask for

    private void requireEnds() {
        if (!current.hasEnds()) {
            throw new IllegalStateException("no source and sink are chosen");
        }
    }

    private void requireNode(int node) {
        if (node < 0 || node >= network.nodes) {
            throw new IndexOutOfBoundsException("there is no such node");
        }
    }

    private void requireArc(int arc) {
        if (arc < 0 || arc >= network.arcs) {
            throw new IndexOutOfBoundsException("there is no such arc");
        }
    }

    private static void requireDifferent(int node, int other) {
        if (node == other) {
            throw new IllegalArgumentException("both nodes are the same");
        }
    }

    private static void requireCapacity(int capacity) {
        if (capacity < 0 || capacity > MOST_CAPACITY) {
            throw new IllegalArgumentException("the capacity is not 0 to 1000000");
        }
    }

    private static void requireFraction(double fraction) {
        // Written so that what is no number is refused, too.
        boolean allowed = fraction >= 0.0 && fraction <= (double) MOST_FRACTION;
        if (!allowed) {
            throw new IllegalArgumentException("the fraction is not from 0 to 1000");
        }
    }

    private boolean isCut(int mask) {
        return (mask & ~network.allNodes()) == 0
                && contains(mask, current.source)
                && !contains(mask, current.sink);
    }

    /** How much, up to a bound, can flow from one end of an arc to the other past this arc. */
    private int movable(int arc, int from, int bound) {
        trial.copy(current);
        trial.flow.block(arc);
        return trial.router.route(from, network.otherEnd(arc, from), bound);
    }

    private static int scaled(int capacity, double fraction) {
        double product = (double) capacity * fraction;
        int whole = (int) product;
        double rest = product - (double) whole;
        boolean up = rest > 0.5 || (rest == 0.5 && (whole & 1) == 1);
        return Math.min(up ? whole + 1 : whole, MOST_CAPACITY);
    }

    private static boolean contains(int mask, int node) {
        return ((mask >> node) & 1) == 1;
    }

    /** The nodes and arcs. Capacities are not here, because a trial has others. */
    private static final class Network {
        private int nodes;
        private int arcs;
        private final int[] tail = new int[MOST_ARCS];
        private final int[] head = new int[MOST_ARCS];
        private final int[] degree = new int[MOST_NODES];
        private final int[][] arcsAt = new int[MOST_NODES][MOST_ARCS];

        private int makeNode() {
            nodes++;
            return nodes - 1;
        }

        private int makeArc(int from, int to) {
            int arc = arcs;
            arcs++;
            tail[arc] = from;
            head[arc] = to;
            attach(arc, from);
            attach(arc, to);
            return arc;
        }

        private void attach(int arc, int node) {
            arcsAt[node][degree[node]] = arc;
            degree[node]++;
        }

        private int otherEnd(int arc, int node) {
            return tail[arc] == node ? head[arc] : tail[arc];
        }

        private int allNodes() {
            return (1 << nodes) - 1;
        }
    }

    /** What each arc can carry, and what it carries. Arcs not yet made have the capacity 0. */
    private static final class Flow {
        private final Network network;
        private final int[] capacity = new int[MOST_ARCS];
        private final int[] amount = new int[MOST_ARCS];

        private Flow(Network network) {
            this.network = network;
        }

        private void copy(Flow other) {
            System.arraycopy(other.capacity, 0, capacity, 0, MOST_ARCS);
            System.arraycopy(other.amount, 0, amount, 0, MOST_ARCS);
        }

        private void block(int arc) {
            capacity[arc] = 0;
            amount[arc] = 0;
        }

        /** How much more can go over an arc from one end; from its head, what can be taken back. */
        private int room(int arc, int from) {
            return network.tail[arc] == from ? capacity[arc] - amount[arc] : amount[arc];
        }

        private void send(int arc, int from, int part) {
            amount[arc] += network.tail[arc] == from ? part : -part;
        }

        /** The mask of the nodes that more flow could get to from a start. */
        private int reachableFrom(int start) {
            int mask = 1 << start;
            int before = 0;
            for (int round = 0; round < network.nodes && mask != before; round++) {
                before = mask;
                mask = withNeighbours(mask);
            }
            return mask;
        }

        private int withNeighbours(int mask) {
            int wider = mask;
            for (int arc = 0; arc < network.arcs; arc++) {
                int tail = network.tail[arc];
                int head = network.head[arc];
                if (contains(wider, tail) && room(arc, tail) > 0) {
                    wider |= 1 << head;
                }
                if (contains(wider, head) && room(arc, head) > 0) {
                    wider |= 1 << tail;
                }
            }
            return wider;
        }

        /** The sum of the capacities of the arcs that lead out of a set of nodes. */
        private int capacityOut(int mask) {
            int sum = 0;
            for (int arc = 0; arc < network.arcs; arc++) {
                if (contains(mask, network.tail[arc]) && !contains(mask, network.head[arc])) {
                    sum += capacity[arc];
                }
            }
            return sum;
        }
    }

    /** Sends flow from one node to another, around what flows already, by push and relabel. */
    private static final class Router {
        private final Network network;
        private final Flow flow;
        private final int[] excess = new int[MOST_NODES];
        private final int[] height = new int[MOST_NODES];
        private final int[] queue = new int[MOST_NODES];
        private int start;
        private int goal;

        private Router(Network network, Flow flow) {
            this.network = network;
            this.flow = flow;
        }

        /** Sends as much as can go, up to a bound, and tells how much this was. */
        private int route(int from, int to, int bound) {
            if (from < 0 || to < 0 || from == to || bound <= 0) {
                return 0;
            }
            start = from;
            goal = to;
            setHeights();
            Arrays.fill(excess, 0);
            excess[from] = bound;
            boolean busy = true;
            for (int sweep = 0; sweep < MOST_SWEEPS && busy; sweep++) {
                busy = sweepOnce();
            }
            return excess[to];
        }

        /** The height of a node is its distance to the goal, or the number of nodes without a way. */
        private void setHeights() {
            Arrays.fill(height, network.nodes);
            height[goal] = 0;
            queue[0] = goal;
            int found = 1;
            for (int next = 0; next < found && found < network.nodes; next++) {
                found = findBehind(queue[next], found);
            }
        }

        private int findBehind(int node, int found) {
            int count = found;
            for (int i = 0; i < network.degree[node]; i++) {
                int arc = network.arcsAt[node][i];
                int other = network.otherEnd(arc, node);
                boolean isNew = height[other] == network.nodes;
                if (isNew && flow.room(arc, other) > 0 && count < MOST_NODES) {
                    height[other] = height[node] + 1;
                    queue[count] = other;
                    count++;
                }
            }
            return count;
        }

        private boolean sweepOnce() {
            boolean busy = false;
            for (int node = 0; node < network.nodes; node++) {
                if (isActive(node)) {
                    busy = true;
                    pushOut(node);
                    lift(node);
                }
            }
            return busy;
        }

        /**
         * The start keeps what it has once it is as high as there are nodes: then no way leads
         * from it to the goal, and what other nodes cannot send on comes back to it.
         */
        private boolean isActive(int node) {
            return excess[node] > 0 && node != goal
                    && (node != start || height[node] < network.nodes);
        }

        private void pushOut(int node) {
            for (int i = 0; i < network.degree[node]; i++) {
                int arc = network.arcsAt[node][i];
                int other = network.otherEnd(arc, node);
                if (height[node] == height[other] + 1) {
                    int part = Math.min(excess[node], flow.room(arc, node));
                    flow.send(arc, node, part);
                    excess[node] -= part;
                    excess[other] += part;
                }
            }
        }

        /** Relabels a node that has excess left, just above its lowest neighbour with room. */
        private void lift(int node) {
            if (excess[node] == 0) {
                return;
            }
            int lowest = 2 * MOST_NODES;
            for (int i = 0; i < network.degree[node]; i++) {
                int arc = network.arcsAt[node][i];
                if (flow.room(arc, node) > 0) {
                    lowest = Math.min(lowest, height[network.otherEnd(arc, node)]);
                }
            }
            height[node] = node == start ? Math.min(lowest + 1, network.nodes) : lowest + 1;
        }
    }

    /** A flow that is repaired after each change, and made a maximum flow when one is asked for. */
    private static final class MaximumFlow {
        private final Network network;
        private final Flow flow;
        private final Router router;
        private int source = NO_NODE;
        private int sink = NO_NODE;
        private boolean settled;

        private MaximumFlow(Network network) {
            Flow kept = new Flow(network);
            this.network = network;
            flow = kept;
            router = new Router(network, kept);
        }

        private boolean hasEnds() {
            return source != NO_NODE && sink != NO_NODE;
        }

        private void copy(MaximumFlow other) {
            flow.copy(other.flow);
            source = other.source;
            sink = other.sink;
            settled = other.settled;
        }

        /** Tells whether they are others than before; a flow between others is of no use. */
        private boolean chooseEnds(int newSource, int newSink) {
            if (source == newSource && sink == newSink) {
                return false;
            }
            source = newSource;
            sink = newSink;
            settled = false;
            Arrays.fill(flow.amount, 0);
            return true;
        }

        private void changeCapacity(int arc, int capacity) {
            if (flow.capacity[arc] == capacity) {
                return;
            }
            flow.capacity[arc] = capacity;
            settled = false;
            int surplus = flow.amount[arc] - capacity;
            if (surplus > 0) {
                flow.amount[arc] = capacity;
                moveAway(network.tail[arc], network.head[arc], surplus);
            }
        }

        /**
         * After an arc has lost a part of its flow, its tail has too much and its head too little.
         * What cannot take another way between them goes back to the source, and the head gets
         * it from the sink: for what came over the arc and cannot go around it went this way.
         */
        private void moveAway(int tail, int head, int surplus) {
            int lost = surplus - router.route(tail, head, surplus);
            router.route(tail, source, lost);
            router.route(sink, head, lost);
        }

        private void settle() {
            if (!settled) {
                router.route(source, sink, ENDLESS);
                settled = true;
            }
        }

        private int greatestValue() {
            settle();
            int value = 0;
            for (int arc = 0; arc < network.arcs; arc++) {
                if (network.tail[arc] == source) {
                    value += flow.amount[arc];
                }
                if (network.head[arc] == source) {
                    value -= flow.amount[arc];
                }
            }
            return value;
        }

        private int smallestMask() {
            settle();
            return flow.reachableFrom(source);
        }

        private int greatestMask() {
            settle();
            int mask = 0;
            for (int node = 0; node < network.nodes; node++) {
                if (!contains(flow.reachableFrom(node), sink)) {
                    mask |= 1 << node;
                }
            }
            return mask;
        }
    }

    /** The capacities and ends that have been stored. */
    private static final class Levels {
        private int count;
        private final int[][] capacity = new int[MOST_LEVELS][MOST_ARCS];
        private final int[] source = new int[MOST_LEVELS];
        private final int[] sink = new int[MOST_LEVELS];

        /** Arcs not yet made are stored, too, with the 0 that they get when the level closes. */
        private void store(MaximumFlow maximum) {
            System.arraycopy(maximum.flow.capacity, 0, capacity[count], 0, MOST_ARCS);
            source[count] = maximum.source;
            sink[count] = maximum.sink;
            count++;
        }
    }

    /** The minimum cuts that have been found. */
    private static final class Cuts {
        private static final int NO_CUT = 0;

        private int count;
        private final int[] masks = new int[MOST_CUTS];
        private final int[] reachable = new int[MOST_NODES];

        /** The smallest minimum cut is a part of all others, so its mask is the least, too. */
        private void find(MaximumFlow maximum) {
            int nodes = maximum.network.nodes;
            for (int node = 0; node < nodes; node++) {
                reachable[node] = maximum.flow.reachableFrom(node);
            }
            count = 0;
            int cut = reachable[maximum.source];
            while (count < MOST_CUTS && cut != NO_CUT) {
                masks[count] = cut;
                count++;
                cut = nextAfter(cut, nodes, maximum.sink);
            }
        }

        /**
         * A set is a minimum cut just if it has the source, not the sink, and with each node all
         * that is reachable from it. The next greater mask is the one that gets a new node as low
         * as possible, keeps the higher nodes as they are, and below has only what these need.
         */
        private int nextAfter(int cut, int nodes, int sink) {
            for (int node = 0; node < nodes; node++) {
                int above = node + 1;
                int higher = (cut >> above) << above;
                int wider = withReachable(higher | (1 << node), nodes) | masks[0];
                boolean keepsHigher = (wider >> above) == (cut >> above);
                if (!contains(cut, node) && keepsHigher && !contains(wider, sink)) {
                    return wider;
                }
            }
            return NO_CUT;
        }

        private int withReachable(int mask, int nodes) {
            int wider = mask;
            for (int node = 0; node < nodes; node++) {
                if (contains(mask, node)) {
                    wider |= reachable[node];
                }
            }
            return wider;
        }
    }
}
