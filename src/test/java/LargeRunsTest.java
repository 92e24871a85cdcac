/**
 * Networks as large as the document allows: after every change a repaired flow must answer what a
 * fresh object answers, which got the same network at once, and the value that the simplest search
 * for ways finds.
 */
public final class LargeRunsTest {
    private static final int NODES = 24;
    private static final int ARCS = 80;
    private static final int RUNS = 60;
    private static final Check CHECK = new Check("LargeRunsTest");

    private final Numbers numbers;
    private final FlowNetwork real = Networks.withNodes(NODES);
    private final int[] tail = new int[ARCS];
    private final int[] head = new int[ARCS];
    private final int[] capacity = new int[ARCS];
    private final int mostCapacity;
    private int source;
    private int sink;

    private LargeRunsTest(int run) {
        numbers = new Numbers(70000 + run);
        mostCapacity = numbers.from(1, 5, 1000, 1000000);
        int near = numbers.from(3, 6, 23);
        for (int arc = 0; arc < ARCS; arc++) {
            tail[arc] = numbers.below(NODES);
            head[arc] = (tail[arc] + 1 + numbers.below(near)) % NODES;
            capacity[arc] = numbers.below(mostCapacity + 1);
            real.addArc(tail[arc], head[arc], capacity[arc]);
        }
    }

    public static void main(String[] args) {
        for (int run = 0; run < RUNS && !CHECK.isWrong(); run++) {
            new LargeRunsTest(run).run();
        }
        CHECK.end();
    }

    private void run() {
        for (int step = 0; step < 40 && !CHECK.isWrong(); step++) {
            if (step % 20 == 0) {
                source = numbers.below(NODES);
                sink = (source + 1 + numbers.below(NODES - 1)) % NODES;
                real.setEnds(source, sink);
            }
            change();
            compare();
        }
    }

    private void change() {
        int times = 1 + numbers.below(5);
        for (int i = 0; i < times; i++) {
            int arc = numbers.below(ARCS);
            capacity[arc] = numbers.oneIn(3) ? 0 : numbers.below(mostCapacity + 1);
            real.setCapacity(arc, capacity[arc]);
        }
    }

    private FlowNetwork fresh() {
        FlowNetwork x = Networks.withNodes(NODES);
        for (int arc = 0; arc < ARCS; arc++) {
            x.addArc(tail[arc], head[arc], capacity[arc]);
        }
        x.setEnds(source, sink);
        return x;
    }

    private void compare() {
        FlowNetwork fresh = fresh();
        CHECK.due("maximum", searched(source, sink, capacity), real::maximum);
        CHECK.due("digest", fresh.digest(), real::digest);
        int arc = numbers.below(ARCS);
        CHECK.due("leastFlow", fresh.leastFlow(arc), () -> real.leastFlow(arc));
        CHECK.due("greatestFlow", fresh.greatestFlow(arc), () -> real.greatestFlow(arc));
        CHECK.due("isBottleneck", fresh.isBottleneck(arc), () -> real.isBottleneck(arc));
        CHECK.due("isLimiting", fresh.isLimiting(arc), () -> real.isLimiting(arc));
        CHECK.due("headroom", fresh.headroom(arc), () -> real.headroom(arc));
        int most = numbers.below(mostCapacity + 1);
        int[] other = capacity.clone();
        other[arc] = most;
        CHECK.due("maximumWith", searched(source, sink, other), () -> real.maximumWith(arc, most));
        int node = numbers.below(NODES);
        CHECK.due("maximumWithout", searched(source, sink, without(node)), () -> real.maximumWithout(node));
        int from = (node + 1) % NODES;
        CHECK.due("maximumBetween", searched(from, node, capacity), () -> real.maximumBetween(from, node));
    }

    private int[] without(int node) {
        int[] other = capacity.clone();
        for (int arc = 0; arc < ARCS; arc++) {
            if (tail[arc] == node || head[arc] == node) {
                other[arc] = 0;
            }
        }
        return other;
    }

    /** Finds ways with room, one after the other, until there is none. */
    private int searched(int from, int to, int[] most) {
        int[] flow = new int[ARCS];
        int value = 0;
        int found = way(from, to, most, flow);
        while (found > 0) {
            value += found;
            found = way(from, to, most, flow);
        }
        return value;
    }

    private int way(int from, int to, int[] most, int[] flow) {
        int[] room = new int[NODES];
        int[] by = new int[NODES];
        int[] queue = new int[NODES];
        int found = 1;
        queue[0] = from;
        room[from] = Integer.MAX_VALUE;
        for (int next = 0; next < found; next++) {
            for (int arc = 0; arc < ARCS; arc++) {
                int here = queue[next];
                boolean forward = tail[arc] == here;
                int other = forward ? head[arc] : tail[arc];
                int left = forward ? most[arc] - flow[arc] : head[arc] == here ? flow[arc] : 0;
                if (left > 0 && room[other] == 0) {
                    room[other] = Math.min(room[here], left);
                    by[other] = arc;
                    queue[found++] = other;
                }
            }
        }
        int node = to;
        while (room[to] > 0 && node != from) {
            boolean forward = head[by[node]] == node;
            flow[by[node]] += forward ? room[to] : -room[to];
            node = forward ? tail[by[node]] : head[by[node]];
        }
        return room[to];
    }
}
