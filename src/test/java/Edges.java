/** Values on both sides of the limits that the document names. */
final class Edges {
    static final int LOWEST = Integer.MIN_VALUE;
    static final int HIGHEST = Integer.MAX_VALUE;
    static final int[] CAPACITIES = {0, 1, 999999, 1000000};
    static final int[] WRONG_CAPACITIES = {-1, 1000001, LOWEST, HIGHEST};
    static final double[] FRACTIONS = {
        0.0, -0.0, Double.MIN_VALUE, 1.0, Math.nextDown(1000.0), 1000.0
    };
    static final double[] WRONG_FRACTIONS = {
        -Double.MIN_VALUE, -1.0, Math.nextUp(1000.0), 1001.0, Double.MAX_VALUE, -Double.MAX_VALUE,
        Double.POSITIVE_INFINITY, Double.NEGATIVE_INFINITY, Double.NaN
    };

    private Edges() {
    }

    /** Numbers that are none of the first so many from 0, the nearest ones among them. */
    static int[] notBelow(int count) {
        return new int[] {-1, count, count + 1, count + 80, -count - 1, LOWEST, LOWEST + 1, HIGHEST};
    }
}
