/** Numbers that look drawn, the same ones for the same seed. */
final class Draw {
    private long state;

    Draw(int seed) {
        state = seed * 7919L + 12345;
    }

    int below(int bound) {
        state = state * 6364136223846793005L + 1442695040888963407L;
        return (int) Long.remainderUnsigned(state >>> 33, bound);
    }

    int[] row(int length, int bound) {
        int[] row = new int[length];
        for (int at = 0; at < length; at++) {
            row[at] = below(bound);
        }
        return row;
    }

    int order(int points) {
        int order = 0;
        int used = 0;
        for (int turn = 0; turn < points; turn++) {
            int point = below(points);
            while ((used & 1 << point) != 0) {
                point = (point + 1) % points;
            }
            used |= 1 << point;
            order |= point << 3 * turn;
        }
        return order;
    }
}
