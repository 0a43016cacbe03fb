/** Objects that tests begin with. */
final class Make {
    private Make() {
    }

    /** A table of so many points, of each two the same distance. */
    static FewWays even(int points, int distance) {
        FewWays x = new FewWays();
        x.table(points);
        for (int i = 0; i < points; i++) {
            for (int j = i + 1; j < points; j++) {
                x.set(i, j, distance);
            }
        }
        return x;
    }

    /** Distances row by row: 0 1, 0 2, 1 2, 0 3, 1 3, 2 3 and so on. */
    static FewWays table(int points, int... distances) {
        FewWays x = new FewWays();
        x.table(points);
        int next = 0;
        for (int j = 1; j < points; j++) {
            for (int i = 0; i < j; i++) {
                x.set(i, j, distances[next]);
                next++;
            }
        }
        return x;
    }

    /** Points on a line at these places. */
    static FewWays onLine(int... places) {
        FewWays x = new FewWays();
        x.table(places.length);
        for (int j = 1; j < places.length; j++) {
            for (int i = 0; i < j; i++) {
                x.set(i, j, Math.abs(places[j] - places[i]));
            }
        }
        return x;
    }

    /** The order of these points as three bits a point, the first one lowest. */
    static int order(int... points) {
        int order = 0;
        for (int turn = points.length - 1; turn >= 0; turn--) {
            order = order * 8 + points[turn];
        }
        return order;
    }

    /** So many points with unlike distances, none above two others together, and ten unlike numbers. */
    static FewWays busy(int points) {
        FewWays x = new FewWays();
        x.table(points);
        for (int i = 0; i < points; i++) {
            for (int j = i + 1; j < points; j++) {
                x.set(i, j, 12 + (7 * i + 5 * j) % 9);
            }
        }
        for (int i = 0; i < 10; i++) {
            x.number(i, 17 * i - 60);
        }
        return x;
    }

    /** All that an object holds as text, its numbers too (each is put back), and some of its answers. */
    static String state(FewWays x) {
        StringBuilder text = new StringBuilder(all(x));
        for (int i = 0; i < 10; i++) {
            int v = x.number(i, 0);
            x.number(i, v);
            text.append(' ').append(v);
        }
        for (int law = 0; law <= 3; law++) {
            text.append(' ').append(x.law(law)).append(' ').append(x.breaks(law));
        }
        text.append(' ').append(x.flat()).append(' ').append(x.ways()).append(' ').append(x.bulk(x.count()));
        text.append(' ').append(x.peel(2)).append(' ').append(x.left(0, 1)).append(' ').append(x.best(0));
        text.append(' ').append(x.centres(1, 1, 0)).append(' ').append(x.signs(10, 40)).append(' ').append(x.least(10, 0));
        return text.toString();
    }

    /** All distances as text, to see that nothing changed. */
    static String all(FewWays x) {
        int n = x.count();
        StringBuilder text = new StringBuilder();
        text.append(n);
        for (int i = 0; i < n; i++) {
            for (int j = 0; j < n; j++) {
                text.append(' ').append(x.at(i, j));
            }
        }
        return text.toString();
    }
}
