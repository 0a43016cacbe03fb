/** Objects that tests begin with. */
final class Make {
    private Make() {
    }

    /** A table of so many points, of each two the same distance. */
    static FewWays even(int points, int distance) {
        FewWays x = new FewWays();
        x.table(points);
        for (int i = 0; i < points; i++) {
            for (int j = i + 1; j < points; j++) {
                x.set(i, j, distance);
            }
        }
        return x;
    }

    /** Distances row by row: 0 1, 0 2, 1 2, 0 3, 1 3, 2 3 and so on. */
    static FewWays table(int points, int... distances) {
        FewWays x = new FewWays();
        x.table(points);
        int next = 0;
        for (int j = 1; j < points; j++) {
            for (int i = 0; i < j; i++) {
                x.set(i, j, distances[next]);
                next++;
            }
        }
        return x;
    }

    /** Points on a line at these places. */
    static FewWays onLine(int... places) {
        FewWays x = new FewWays();
        x.table(places.length);
        for (int j = 1; j < places.length; j++) {
            for (int i = 0; i < j; i++) {
                x.set(i, j, Math.abs(places[j] - places[i]));
            }
        }
        return x;
    }

    /** The order of these points as three bits a point, the first one lowest. */
    static int order(int... points) {
        int order = 0;
        for (int turn = points.length - 1; turn >= 0; turn--) {
            order = order * 8 + points[turn];
        }
        return order;
    }

    /** All distances as text, to see that nothing changed. */
    static String all(FewWays x) {
        StringBuilder text = new StringBuilder();
        text.append(x.count());
        for (int i = 0; i < x.count(); i++) {
            for (int j = 0; j < x.count(); j++) {
                text.append(' ').append(x.at(i, j));
            }
        }
        return text.toString();
    }
}
