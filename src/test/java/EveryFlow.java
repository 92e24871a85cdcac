import java.util.ArrayList;
import java.util.List;

/**
 * A small network, and the document's definitions by their very words: every way to assign numbers
 * to the arcs is tried, and every set of nodes. (Model knows of sets of nodes only.)
 */
final class EveryFlow {
    private final int nodes;
    private final int[] tail;
    private final int[] head;
    private final int[] capacity;
    private final int source;
    private final int sink;

    EveryFlow(int nodes, int[] tail, int[] head, int[] capacity, int source, int sink) {
        this.nodes = nodes;
        this.tail = tail;
        this.head = head;
        this.capacity = capacity;
        this.source = source;
        this.sink = sink;
    }

    EveryFlow with(int arc, int other) {
        int[] changed = capacity.clone();
        changed[arc] = other;
        return new EveryFlow(nodes, tail, head, changed, source, sink);
    }

    EveryFlow without(int node) {
        int[] changed = capacity.clone();
        for (int arc = 0; arc < changed.length; arc++) {
            changed[arc] = tail[arc] == node || head[arc] == node ? 0 : changed[arc];
        }
        return new EveryFlow(nodes, tail, head, changed, source, sink);
    }

    EveryFlow between(int from, int to) {
        return new EveryFlow(nodes, tail, head, capacity, from, to);
    }

    /** The sum of the numbers of the arcs that leave a node, minus that of those that lead to it. */
    private int surplus(int[] numbers, int node) {
        int sum = 0;
        for (int arc = 0; arc < numbers.length; arc++) {
            sum += tail[arc] == node ? numbers[arc] : 0;
            sum -= head[arc] == node ? numbers[arc] : 0;
        }
        return sum;
    }

    private boolean isFlow(int[] numbers) {
        for (int node = 0; node < nodes; node++) {
            if (node != source && node != sink && surplus(numbers, node) != 0) {
                return false;
            }
        }
        return true;
    }

    /** Goes on to the next numbers, each from 0 to the capacity of its arc; false after the last. */
    private boolean toNext(int[] numbers) {
        for (int arc = 0; arc < numbers.length; arc++) {
            if (numbers[arc] < capacity[arc]) {
                numbers[arc]++;
                return true;
            }
            numbers[arc] = 0;
        }
        return false;
    }

    /** All maximum flows. */
    List<int[]> maximumFlows() {
        List<int[]> greatest = new ArrayList<>();
        int value = Integer.MIN_VALUE;
        int[] numbers = new int[capacity.length];
        do {
            if (isFlow(numbers) && surplus(numbers, source) >= value) {
                if (surplus(numbers, source) > value) {
                    greatest.clear();
                }
                value = surplus(numbers, source);
                greatest.add(numbers.clone());
            }
        } while (toNext(numbers));
        return greatest;
    }

    int maximum() {
        return surplus(maximumFlows().get(0), source);
    }

    /** The sum of the capacities of all arcs that lead from a node of a set to a node outside. */
    private int capacityOf(int set) {
        int sum = 0;
        for (int arc = 0; arc < capacity.length; arc++) {
            sum += leads(arc, set) ? capacity[arc] : 0;
        }
        return sum;
    }

    /** The sum of the capacities of the arcs that leave the source. */
    int leavingSource() {
        return capacityOf(1 << source);
    }

    private boolean leads(int arc, int set) {
        return (set >> tail[arc] & 1) == 1 && (set >> head[arc] & 1) == 0;
    }

    /** The masks of all minimum cuts, ascending. */
    List<Integer> minimumCuts() {
        List<Integer> least = new ArrayList<>();
        int capacityOfLeast = Integer.MAX_VALUE;
        for (int set = 0; set < 1 << nodes; set++) {
            boolean isCut = (set >> source & 1) == 1 && (set >> sink & 1) == 0;
            if (isCut && capacityOf(set) <= capacityOfLeast) {
                if (capacityOf(set) < capacityOfLeast) {
                    least.clear();
                }
                capacityOfLeast = capacityOf(set);
                least.add(set);
            }
        }
        return least;
    }

    boolean isBottleneck(int arc) {
        boolean found = false;
        for (int cut : minimumCuts()) {
            found |= leads(arc, cut) && capacity[arc] != 0;
        }
        return found;
    }

    boolean isLimiting(int arc) {
        return with(arc, capacity[arc] + 1).maximum() > maximum();
    }

    /** Beyond what all arcs together carry, an arc can only bring more if nothing else is on the way. */
    int headroom(int arc) {
        int all = 0;
        for (int one : capacity) {
            all += one;
        }
        int most = with(arc, all).maximum();
        return with(arc, all + 1).maximum() > most ? -1 : most - maximum();
    }

    /** A new object with this network, which has had other capacities and flows before. */
    FlowNetwork made(int before) {
        FlowNetwork x = Networks.withNodes(nodes);
        for (int arc = 0; arc < capacity.length; arc++) {
            x.addArc(tail[arc], head[arc], before);
        }
        x.setEnds(source, sink);
        x.maximum();
        for (int arc = 0; arc < capacity.length; arc++) {
            x.setCapacity(arc, capacity[arc]);
        }
        return x;
    }

    @Override
    public String toString() {
        StringBuilder text = new StringBuilder();
        text.append(source).append(" to ").append(sink).append(':');
        for (int arc = 0; arc < capacity.length; arc++) {
            text.append(' ').append(tail[arc]).append('-').append(head[arc]);
            text.append('(').append(capacity[arc]).append(')');
        }
        return text.toString();
    }
}
