/** All promises at once: long runs of calls, each answer compared with the one of the Model. */
public final class RandomRunsTest {
    private static final int RUNS = 1500;
    private static final int CALLS = 250;
    private static final Check CHECK = new Check("RandomRunsTest");

    private final Numbers numbers;
    private final FlowNetwork real = new FlowNetwork();
    private final Model model = new Model();
    private final int mostNodes;
    private final int mostArcs;
    private final int mostCapacity;
    private final StringBuilder log = new StringBuilder();

    private RandomRunsTest(int run) {
        numbers = new Numbers(run);
        mostNodes = 2 + numbers.below(6);
        mostArcs = 2 + numbers.below(17);
        mostCapacity = numbers.from(1, 2, 4, 10, 1000, 1000000);
    }

    public static void main(String[] args) {
        for (int run = 0; run < RUNS && !CHECK.isWrong(); run++) {
            new RandomRunsTest(run).run();
        }
        manyCuts();
        CHECK.end();
    }

    private void run() {
        for (int node = 0; node < mostNodes; node++) {
            same("addNode", real::addNode, model::addNode);
        }
        for (int call = 0; call < CALLS && !CHECK.isWrong(); call++) {
            callOnce();
        }
        if (CHECK.isWrong()) {
            System.out.println(log);
        }
    }

    private void same(String name, Check.Call ofReal, Check.Call ofModel) {
        String want = Check.answer(ofModel);
        log.append(name).append(" = ").append(want).append('\n');
        CHECK.same(name, want, Check.answer(ofReal));
    }

    private int node() {
        return numbers.oneIn(40) ? numbers.from(-1, mostNodes) : numbers.below(mostNodes);
    }

    private int arc() {
        int arcs = real.arcCount();
        return arcs == 0 || numbers.oneIn(40) ? numbers.from(-1, arcs) : numbers.below(arcs);
    }

    private int capacity() {
        if (numbers.oneIn(40)) {
            return numbers.from(-1, 0, 1000000, 1000001);
        }
        return numbers.below(mostCapacity + 1);
    }

    private double fraction() {
        double[] some = {0.0, 0.5, 0.25, 1.5, 2.5, 1.0 / 3.0, 1000.0, 1000.5, -0.5, Double.NaN};
        return some[numbers.below(some.length)];
    }

    private void callOnce() {
        if (real.arcCount() < mostArcs && numbers.oneIn(4)) {
            addArc();
            return;
        }
        switch (numbers.below(4)) {
            case 0 -> change();
            case 1 -> askMaximum();
            case 2 -> askArc();
            default -> askCuts();
        }
    }

    private void addArc() {
        int tail = node();
        int head = node();
        int capacity = capacity();
        same("addArc(" + tail + ", " + head + ", " + capacity + ")",
                () -> real.addArc(tail, head, capacity), () -> model.addArc(tail, head, capacity));
    }

    private void change() {
        int node = node();
        int other = node();
        int arc = arc();
        int capacity = capacity();
        double fraction = fraction();
        switch (numbers.below(12)) {
            case 0 -> same("scale(" + node + ", " + fraction + ")",
                    () -> real.scale(node, fraction), () -> model.scale(node, fraction));
            case 1, 2 -> same("setEnds(" + node + ", " + other + ")",
                    () -> real.setEnds(node, other), () -> model.setEnds(node, other));
            case 3, 4 -> same("push()", real::push, model::push);
            case 5 -> same("pop()", real::pop, model::pop);
            default -> same("setCapacity(" + arc + ", " + capacity + ")",
                    () -> real.setCapacity(arc, capacity), () -> model.setCapacity(arc, capacity));
        }
    }

    private void askMaximum() {
        int node = node();
        int other = node();
        int arc = arc();
        int capacity = capacity();
        switch (numbers.below(9)) {
            case 0 -> same("maximumWithout(" + node + ")",
                    () -> real.maximumWithout(node), () -> model.maximumWithout(node));
            case 1 -> same("maximumBetween(" + node + ", " + other + ")",
                    () -> real.maximumBetween(node, other), () -> model.maximumBetween(node, other));
            case 2 -> same("utilization()", real::utilization, model::utilization);
            case 3 -> same("digest()", real::digest, model::digest);
            case 4 -> same("nodeCount()", real::nodeCount, model::nodeCount);
            case 5 -> same("arcCount()", real::arcCount, model::arcCount);
            case 6 -> same("maximum()", real::maximum, model::maximum);
            default -> same("maximumWith(" + arc + ", " + capacity + ")",
                    () -> real.maximumWith(arc, capacity), () -> model.maximumWith(arc, capacity));
        }
    }

    private void askArc() {
        int arc = arc();
        String name = "(" + arc + ")";
        same("capacity" + name, () -> real.capacity(arc), () -> model.capacity(arc));
        same("leastFlow" + name, () -> real.leastFlow(arc), () -> model.leastFlow(arc));
        same("greatestFlow" + name, () -> real.greatestFlow(arc), () -> model.greatestFlow(arc));
        same("isBottleneck" + name, () -> real.isBottleneck(arc), () -> model.isBottleneck(arc));
        same("isLimiting" + name, () -> real.isLimiting(arc), () -> model.isLimiting(arc));
        same("headroom" + name, () -> real.headroom(arc), () -> model.headroom(arc));
    }

    private void askCuts() {
        int mask = numbers.below(1 << mostNodes) - (numbers.oneIn(30) ? 1 << mostNodes : 0);
        same("cutCapacity(" + mask + ")", () -> real.cutCapacity(mask), () -> model.cutCapacity(mask));
        same("smallestCut()", real::smallestCut, model::smallestCut);
        same("greatestCut()", real::greatestCut, model::greatestCut);
        if (numbers.oneIn(2)) {
            same("findCuts()", real::findCuts, model::findCuts);
        }
        int index = numbers.below(mostNodes + 2) - 1;
        same("cut(" + index + ")", () -> real.cut(index), () -> model.cut(index));
    }

    /** Networks with few arcs have hundreds of minimum cuts, of which 300 are kept. */
    private static void manyCuts() {
        for (int run = 0; run < 40 && !CHECK.isWrong(); run++) {
            Numbers numbers = new Numbers(9000 + run);
            FlowNetwork real = Networks.withNodes(12);
            Model model = new Model();
            for (int node = 0; node < 12; node++) {
                model.addNode();
            }
            for (int arc = 0; arc < 2 + run % 4; arc++) {
                int tail = numbers.below(12);
                int head = (tail + 1 + numbers.below(11)) % 12;
                int capacity = numbers.below(3);
                real.addArc(tail, head, capacity);
                model.addArc(tail, head, capacity);
            }
            int source = numbers.below(12);
            int sink = (source + 1 + numbers.below(11)) % 12;
            real.setEnds(source, sink);
            model.setEnds(source, sink);
            CHECK.due("findCuts of many", model.findCuts(), real::findCuts);
            for (int i = 0; i < 301; i++) {
                int index = i;
                CHECK.due("cut " + i, Check.answer(() -> model.cut(index)), () -> real.cut(index));
            }
        }
    }
}
