/** Arguments just beyond the document's limits, on either side, and as far beyond as can be. */
final class Beyond {
    static final int[] BANKS = {-1, 4, Integer.MIN_VALUE, Integer.MAX_VALUE};
    static final int[] NUMBERS = {-1, 10000, Integer.MIN_VALUE, Integer.MAX_VALUE};
    static final int[] POINTS = {-1, 18, Integer.MIN_VALUE, Integer.MAX_VALUE};
    static final int[] REACHES = {0, 17, -1, Integer.MIN_VALUE, Integer.MAX_VALUE};
    static final int[] PARTS = {-1, 2, Integer.MIN_VALUE, Integer.MAX_VALUE};
    /** Pairs that are no two banks: one of them is none, or both are the same. */
    static final int[][] PAIRS = {{-1, 0}, {0, -1}, {4, 3}, {3, 4}, {-1, 4}, {-1, -1}, {4, 4},
        {0, 0}, {1, 1}, {2, 2}, {3, 3}, {Integer.MIN_VALUE, 0}, {0, Integer.MIN_VALUE},
        {Integer.MAX_VALUE, 3}, {3, Integer.MAX_VALUE}};

    private Beyond() {
    }
}
