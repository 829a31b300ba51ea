import java.util.stream.IntStream;

/** Numbers at and around the two ends of a range. */
final class Edges {
    private Edges() {
    }

    /** The least and the greatest that are allowed, their neighbours inside, and what is next to 0. */
    static int[] inside(int low, int high) {
        return IntStream.of(low, low + 1, -1, 0, 1, high - 1, high)
                .filter(v -> v >= low && v <= high).distinct().toArray();
    }

    /**
     * The first one below and above, the least and the greatest int, and those that would be inside the range if
     * they wrapped around in 5 bits (a shift), a byte or a short.
     */
    static int[] outside(int low, int high) {
        return IntStream.of(low - 1, high + 1, Integer.MIN_VALUE, Integer.MIN_VALUE + 1,
                        Integer.MAX_VALUE, Integer.MAX_VALUE - 1, low - 32, low + 32, high - 256, low + 256,
                        high - 65536, low + 65536)
                .filter(v -> v < low || v > high).distinct().toArray();
    }

    /** The numbers that are none of the first count ones. */
    static int[] noIndex(int count) {
        return outside(0, count - 1);
    }
}
