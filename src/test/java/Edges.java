import java.util.Arrays;

/** Numbers about the ends of a range. */
final class Edges {
    private Edges() {
    }

    /**
     * The first ones beyond a range on either side, the farthest, and those that a shift, a narrower
     * number or a lost sign would fold back into it.
     */
    static int[] beyond(int low, int high) {
        int[] all = {
            low - 1, high + 1, Integer.MIN_VALUE, Integer.MAX_VALUE, -low - 1, -high, -high - 1, low + 32,
            low + 256, high + 65536, high | Integer.MIN_VALUE
        };
        return Arrays.stream(all).filter(each -> each < low || each > high).distinct().toArray();
    }
}
