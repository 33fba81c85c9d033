/** Numbers that are not allowed: the first ones on both sides, and some that would wrap around. */
final class Edges {
    static final int[] NO_WIRES = {-1, 24, -2, 25, -24, 31, 32, 55, 64, 256, 65536,
        Integer.MAX_VALUE, Integer.MIN_VALUE, Integer.MIN_VALUE + 1};
    static final int[] NO_DELAYS = {-1, 21, -2, 22, -20, 32, 256, 65536,
        Integer.MAX_VALUE, Integer.MIN_VALUE, Integer.MIN_VALUE + 20};
    static final int[] NO_KINDS = {-1, 8, -2, 9, 10, 16, 256, Integer.MAX_VALUE, Integer.MIN_VALUE};
    static final int[] NO_INPUTS_VALUES = {-1, 2, 3, -2, 256, Integer.MAX_VALUE, Integer.MIN_VALUE};

    private Edges() {
    }

    /** Those that are not 0 to the last one that is allowed. */
    static int[] outside(int last) {
        return new int[] {-1, last + 1, -2, last + 2, -last - 1, last + 32, last + 256,
            Integer.MAX_VALUE, Integer.MIN_VALUE};
    }
}
