/** Promises 25 to 27: levels and the checksum. */
public final class LevelsTest {
    private static final Check CHECK = new Check("LevelsTest");

    public static void main(String[] args) {
        mostLevels();
        capacitiesComeBack();
        laterArcsGetNothing();
        endsComeBack();
        levelsInLevels();
        digestCounts();
        digestOfCuts();
        digestWrapsAround();
        CHECK.end();
    }

    private static void mostLevels() {
        FlowNetwork x = Networks.chain(4);
        CHECK.due("pop none", Check.STATE, x::pop);
        for (int level = 1; level <= 8; level++) {
            CHECK.due("push", level, x::push);
        }
        CHECK.due("push 9th", Check.STATE, x::push);
        CHECK.due("push 9th changes nothing", 7, x::pop);
        CHECK.due("push again", 8, x::push);
        for (int level = 7; level >= 0; level--) {
            CHECK.due("pop", level, x::pop);
        }
        CHECK.due("pop the last", Check.STATE, x::pop);
        CHECK.due("maximum", 4, x::maximum);
    }

    private static void capacitiesComeBack() {
        FlowNetwork x = Networks.diamond();
        long before = x.digest();
        x.push();
        x.scale(0, 0.0);
        x.setCapacity(3, 1000000);
        CHECK.due("maximum", 0, x::maximum);
        CHECK.due("pop", 0, x::pop);
        CHECK.due("capacity 0", 5, () -> x.capacity(0));
        CHECK.due("capacity 3", 4, () -> x.capacity(3));
        CHECK.due("maximum after", 8, x::maximum);
        CHECK.due("digest after", before, x::digest);
        x.push();
        x.setCapacity(0, 900);
        x.setCapacity(2, 900);
        CHECK.due("maximum", 903, x::maximum);
        x.pop();
        CHECK.due("maximum after", 8, x::maximum);
        CHECK.due("digest after", before, x::digest);
    }

    private static void laterArcsGetNothing() {
        FlowNetwork x = Networks.diamond();
        x.push();
        x.addArc(0, 3, 50);
        x.addNode();
        x.addArc(4, 0, 60);
        CHECK.due("maximum", 58, x::maximum);
        CHECK.due("pop", 0, x::pop);
        CHECK.due("arcs keep their numbers", 7, x::arcCount);
        CHECK.due("nodes stay", 5, x::nodeCount);
        CHECK.due("capacity 5", 0, () -> x.capacity(5));
        CHECK.due("capacity 6", 0, () -> x.capacity(6));
        CHECK.due("maximum after", 8, x::maximum);
        CHECK.due("the next arc", 7, () -> x.addArc(0, 3, 1));
    }

    private static void endsComeBack() {
        FlowNetwork x = Networks.withArcs(3, 0, 1, 3, 1, 2, 5, 2, 0, 7);
        x.push();
        x.setEnds(0, 1);
        x.push();
        x.setEnds(2, 1);
        CHECK.due("maximum of other ends", 3, x::maximum);
        x.setEnds(1, 0);
        CHECK.due("maximum turned", 5, x::maximum);
        CHECK.due("pop", 1, x::pop);
        CHECK.due("maximum of the first ends", 3, x::maximum);
        CHECK.due("the same ends", false, () -> x.setEnds(0, 1));
        CHECK.due("pop", 0, x::pop);
        CHECK.due("no ends", Check.STATE, x::maximum);
        CHECK.due("ends anew", true, () -> x.setEnds(0, 1));
    }

    private static void levelsInLevels() {
        FlowNetwork x = Networks.chain(100);
        for (int level = 1; level <= 8; level++) {
            x.push();
            x.setCapacity(0, level);
        }
        for (int level = 7; level >= 1; level--) {
            int left = level;
            CHECK.due("pop", left, x::pop);
            CHECK.due("capacity", left, () -> x.capacity(0));
            CHECK.due("maximum", left, x::maximum);
        }
        x.pop();
        CHECK.due("capacity", 100, () -> x.capacity(0));
    }

    private static long sum(long... numbers) {
        long sum = 37;
        for (long number : numbers) {
            sum = sum * 31 + number;
        }
        return sum;
    }

    private static void digestCounts() {
        FlowNetwork x = new FlowNetwork();
        CHECK.due("empty", sum(0, 0, 0, -1, -1), x::digest);
        x.addNode();
        x.addNode();
        CHECK.due("nodes", sum(2, 0, 0, -1, -1), x::digest);
        x.addArc(0, 1, 77);
        x.addArc(1, 0, 5);
        CHECK.due("arcs", sum(2, 2, 0, 77, 5, -1, -1), x::digest);
        x.push();
        CHECK.due("levels", sum(2, 2, 1, 77, 5, -1, -1), x::digest);
        x.setEnds(1, 0);
        CHECK.due("ends", sum(2, 2, 1, 77, 5, 1, 0, 5, 2, 2), x::digest);
        x.setCapacity(1, 0);
        CHECK.due("capacity", sum(2, 2, 1, 77, 0, 1, 0, 0, 2, 2), x::digest);
        x.findCuts();
        CHECK.due("kept cuts do not count", sum(2, 2, 1, 77, 0, 1, 0, 0, 2, 2), x::digest);
        x.pop();
        CHECK.due("after pop", sum(2, 2, 0, 77, 5, -1, -1), x::digest);
    }

    private static void digestOfCuts() {
        FlowNetwork x = Networks.chain(2, 3, 2);
        CHECK.due("two cuts", sum(4, 3, 0, 2, 3, 2, 0, 3, 2, 1, 7), x::digest);
        CHECK.due("and again", sum(4, 3, 0, 2, 3, 2, 0, 3, 2, 1, 7), x::digest);
    }

    private static void digestWrapsAround() {
        FlowNetwork x = Networks.withNodes(24);
        long[] numbers = new long[85];
        numbers[0] = 24;
        numbers[1] = 80;
        for (int arc = 0; arc < 80; arc++) {
            x.addArc(arc % 24, (arc + 1) % 24, 1000000 - arc);
            numbers[3 + arc] = 1000000 - arc;
        }
        numbers[83] = -1;
        numbers[84] = -1;
        CHECK.due("80 arcs", sum(numbers), x::digest);
    }
}
