import java.math.BigInteger;
import java.util.ArrayList;
import java.util.List;

/**
 * The document once more, by other ways than the program's: cases are read from their numbers, w is
 * tried downwards, determinants are sums over permutations of big numbers.
 */
final class Model {
    static final long BAD_BULK = -2000000000000000000L;

    private int n = 2;
    private int[][] d = {{0, 1}, {1, 0}};
    private final int[] numbers = new int[10];

    static Model of(FewWays x) {
        Model model = new Model();
        model.table(x.count());
        for (int i = 0; i < x.count(); i++) {
            for (int j = i + 1; j < x.count(); j++) {
                model.set(i, j, x.at(i, j));
            }
        }
        return model;
    }

    int count() {
        return n;
    }

    int table(int points) {
        if (points < 2 || points > 6) {
            return -1;
        }
        n = points;
        d = new int[n][n];
        for (int i = 0; i < n; i++) {
            for (int j = 0; j < n; j++) {
                d[i][j] = i == j ? 0 : 1;
            }
        }
        return n;
    }

    private boolean in(int i) {
        return 0 <= i && i < n;
    }

    int set(int i, int j, int distance) {
        if (!in(i) || !in(j) || i == j || distance < 0 || distance > 30) {
            return -1;
        }
        int was = d[i][j];
        d[i][j] = distance;
        d[j][i] = distance;
        return was;
    }

    int at(int i, int j) {
        return in(i) && in(j) ? d[i][j] : -1;
    }

    /** The highest figure first. */
    private static int[] figures(int number, int base, int length) {
        int[] figures = new int[length];
        for (int at = length - 1; at >= 0; at--) {
            figures[at] = number % base;
            number /= base;
        }
        return figures;
    }

    private static int caseCount(int law, int n) {
        int base = law == 3 ? 5 : 8;
        int length = law == 3 ? n : law == 1 ? 4 : 3;
        int count = 1;
        for (int at = 0; at < length; at++) {
            count *= base;
        }
        return count;
    }

    boolean isBroken(int law, int number) {
        return isBroken(d, law, number);
    }

    private boolean isBroken(int[][] far, int law, int number) {
        if (law == 3) {
            return isOverweight(far, figures(number, 5, n));
        }
        int[] p = figures(number, 8, law == 1 ? 4 : 3);
        for (int point : p) {
            if (point >= n) {
                return false;
            }
        }
        if (law == 0) {
            boolean unlike = p[0] != p[1] && p[1] != p[2] && p[0] < p[2];
            return unlike && far[p[0]][p[2]] > far[p[0]][p[1]] + far[p[1]][p[2]];
        }
        for (int at = 1; at < p.length; at++) {
            if (p[at - 1] >= p[at]) {
                return false;
            }
        }
        if (law == 2) {
            return greatestOnce(new int[] {far[p[0]][p[1]], far[p[0]][p[2]], far[p[1]][p[2]]});
        }
        return greatestOnce(new int[] {
            far[p[0]][p[1]] + far[p[2]][p[3]],
            far[p[0]][p[2]] + far[p[1]][p[3]],
            far[p[0]][p[3]] + far[p[1]][p[2]]
        });
    }

    private static boolean greatestOnce(int[] three) {
        int[] sorted = three.clone();
        java.util.Arrays.sort(sorted);
        return sorted[2] != sorted[1];
    }

    private boolean isOverweight(int[][] far, int[] figures) {
        int weight = 0;
        int twice = 0;
        for (int i = 0; i < n; i++) {
            weight += figures[i] - 2;
            for (int j = 0; j < n; j++) {
                twice += (figures[i] - 2) * (figures[j] - 2) * far[i][j];
            }
        }
        return weight == 1 && twice > 0;
    }

    int law(int law) {
        if (law < 0 || law > 3) {
            return -1;
        }
        for (int number = 0; number < caseCount(law, n); number++) {
            if (isBroken(law, number)) {
                return number;
            }
        }
        return -4;
    }

    int breaks(int law) {
        if (law < 0 || law > 3) {
            return -1;
        }
        int broken = 0;
        for (int number = 0; number < caseCount(law, n); number++) {
            if (isBroken(law, number)) {
                broken++;
            }
        }
        return broken;
    }

    private BigInteger determinant(List<Integer> points) {
        return determinant(points, 0, new ArrayList<>());
    }

    /** Expands along rows; the sign of a column is told by those after it that are taken already. */
    private BigInteger determinant(List<Integer> points, int row, List<Integer> taken) {
        if (row == points.size()) {
            return BigInteger.ONE;
        }
        BigInteger sum = BigInteger.ZERO;
        for (int column : points) {
            if (taken.contains(column)) {
                continue;
            }
            int later = 0;
            for (int other : taken) {
                later += other > column ? 1 : 0;
            }
            taken.add(column);
            BigInteger rest = determinant(points, row + 1, taken);
            taken.remove(taken.size() - 1);
            int i = points.get(row);
            long g = d[0][i] * d[0][i] + d[0][column] * d[0][column] - d[i][column] * d[i][column];
            BigInteger term = rest.multiply(BigInteger.valueOf(g));
            sum = later % 2 == 0 ? sum.add(term) : sum.subtract(term);
        }
        return sum;
    }

    private List<List<Integer>> sets() {
        List<List<Integer>> sets = new ArrayList<>();
        for (int bits = 2; bits < 1 << n; bits += 2) {
            List<Integer> set = new ArrayList<>();
            for (int i = 1; i < n; i++) {
                if ((bits & 1 << i) != 0) {
                    set.add(i);
                }
            }
            sets.add(set);
        }
        return sets;
    }

    int flat() {
        for (List<Integer> set : sets()) {
            if (determinant(set).signum() < 0) {
                return 0;
            }
        }
        return 1;
    }

    int ways() {
        int most = 0;
        for (List<Integer> set : sets()) {
            if (determinant(set).signum() != 0) {
                most = Math.max(most, set.size());
            }
        }
        return most;
    }

    long bulk(int k) {
        if (k < 2 || k > n) {
            return BAD_BULK;
        }
        List<Integer> first = new ArrayList<>();
        for (int i = 1; i < k; i++) {
            first.add(i);
        }
        return determinant(first).longValueExact();
    }

    private boolean isCut(int cut) {
        return cut >= 2 && cut <= (1 << n) - 2 && cut % 2 == 0;
    }

    private int[][] cutAdded(int[][] far, int cut, int times) {
        int[][] then = new int[n][n];
        for (int i = 0; i < n; i++) {
            for (int j = 0; j < n; j++) {
                boolean inside = (cut & 1 << i) != 0;
                boolean other = (cut & 1 << j) != 0;
                then[i][j] = far[i][j] + (inside ^ other ? times : 0);
            }
        }
        return then;
    }

    int add(int cut, int w) {
        if (!isCut(cut) || Math.abs((long) w) > 30) {
            return -1;
        }
        int[][] then = cutAdded(d, cut, w);
        for (int[] row : then) {
            for (int distance : row) {
                if (distance < 0 || distance > 30) {
                    return -2;
                }
            }
        }
        d = then;
        return 0;
    }

    private boolean keepsFirstLaw(int[][] far) {
        for (int number = 0; number < 512; number++) {
            if (isBroken(far, 0, number)) {
                return false;
            }
        }
        return true;
    }

    private boolean hasNegative(int[][] far) {
        for (int[] row : far) {
            for (int distance : row) {
                if (distance < 0) {
                    return true;
                }
            }
        }
        return false;
    }

    private int[][] rest;

    private int[] peeled() {
        rest = new int[n][n];
        for (int i = 0; i < n; i++) {
            for (int j = 0; j < n; j++) {
                rest[i][j] = 2 * d[i][j];
            }
        }
        int[] taken = new int[64];
        for (int cut = 2; cut < 1 << n; cut += 2) {
            if (keepsFirstLaw(rest)) {
                int w = 61;
                int[][] then = cutAdded(rest, cut, -w);
                while (hasNegative(then) || !keepsFirstLaw(then)) {
                    w--;
                    then = cutAdded(rest, cut, -w);
                }
                taken[cut] = w;
                rest = then;
            }
        }
        return taken;
    }

    int peel(int cut) {
        return isCut(cut) ? peeled()[cut] : -1;
    }

    int left(int i, int j) {
        if (!in(i) || !in(j)) {
            return -1;
        }
        peeled();
        return rest[i][j];
    }

    private int[] order(int told) {
        if (told < 0) {
            return null;
        }
        int[] order = new int[n];
        boolean[] seen = new boolean[n];
        for (int turn = 0; turn < n; turn++) {
            int point = told % 8;
            told /= 8;
            if (point >= n || seen[point]) {
                return null;
            }
            seen[point] = true;
            order[turn] = point;
        }
        return told == 0 ? order : null;
    }

    /** Places are tried upwards, one by one. */
    private int[] places(int[] order) {
        int[] places = new int[n];
        for (int turn = 1; turn < n; turn++) {
            int place = 0;
            while (!mayStand(order, turn, places, place)) {
                place++;
            }
            places[order[turn]] = place;
        }
        return places;
    }

    private boolean mayStand(int[] order, int turn, int[] places, int place) {
        for (int ahead = 0; ahead < turn; ahead++) {
            int there = places[order[ahead]];
            if (place < there || Math.abs(place - there) < d[order[ahead]][order[turn]]) {
                return false;
            }
        }
        return true;
    }

    private int[] stretch(int[] places) {
        int[] most = {0, 1};
        for (int i = 0; i < n; i++) {
            for (int j = 0; j < n; j++) {
                int apart = Math.abs(places[i] - places[j]);
                if (d[i][j] > 0 && compare(new int[] {apart, d[i][j]}, most) > 0) {
                    most = new int[] {apart, d[i][j]};
                }
            }
        }
        int common = BigInteger.valueOf(most[0]).gcd(BigInteger.valueOf(most[1])).intValue();
        return new int[] {most[0] / common, most[1] / common};
    }

    private static int compare(int[] one, int[] other) {
        return Integer.compare(one[0] * other[1], other[0] * one[1]);
    }

    int line(int told, int i, int what) {
        int[] order = order(told);
        if (order == null || what < 0 || what > 2 || what == 0 && !in(i)) {
            return -1;
        }
        int[] places = places(order);
        return what == 0 ? places[i] : stretch(places)[what - 1];
    }

    /** Orders as figures with the first point highest: the least number is the first order. */
    int best(int what) {
        if (what < 0 || what > 2) {
            return -1;
        }
        int best = -1;
        int[] least = null;
        for (int number = 0; number < 1 << 3 * n; number++) {
            int[] points = figures(number, 8, n);
            int told = 0;
            for (int turn = n - 1; turn >= 0; turn--) {
                told = told * 8 + points[turn];
            }
            int[] order = order(told);
            if (order != null) {
                int[] stretch = stretch(places(order));
                if (least == null || compare(stretch, least) < 0) {
                    least = stretch;
                    best = told;
                }
            }
        }
        return what == 0 ? best : least[what - 1];
    }

    int centres(int k, int what, int part) {
        if (k < 1 || k > n || what < 0 || what > 1 || part < 0 || part > 1) {
            return -1;
        }
        int best = -1;
        int least = Integer.MAX_VALUE;
        for (int bits = (1 << n) - 1; bits > 0; bits--) {
            if (Integer.bitCount(bits) == k && reach(bits, what) <= least) {
                least = reach(bits, what);
                best = bits;
            }
        }
        return part == 0 ? best : least;
    }

    private int reach(int bits, int what) {
        int[] ways = new int[n];
        for (int i = 0; i < n; i++) {
            int nearest = Integer.MAX_VALUE;
            for (int j = 0; j < n; j++) {
                if ((bits & 1 << j) != 0) {
                    nearest = Math.min(nearest, d[i][j]);
                }
            }
            ways[i] = nearest;
        }
        java.util.stream.IntStream all = java.util.Arrays.stream(ways);
        return what == 0 ? all.max().getAsInt() : all.sum();
    }

    int number(int i, int v) {
        if (i < 0 || i > 9 || v < -1000 || v > 1000) {
            return -10000;
        }
        int was = numbers[i];
        numbers[i] = v;
        return was;
    }

    private int sumSize(int c, int row) {
        int sum = 0;
        for (int i = 0; i < c; i++) {
            sum += numbers[i] * (row / (1 << i) % 2 == 0 ? 1 : -1);
        }
        return Math.abs(sum);
    }

    int signs(int c, int t) {
        if (c < 1 || c > 10 || t < 0 || t > 10000) {
            return -1;
        }
        int rows = 0;
        for (int row = 0; row < 1 << c; row++) {
            rows += sumSize(c, row) > t ? 0 : 1;
        }
        return rows;
    }

    int least(int c, int what) {
        if (c < 1 || c > 10 || what < 0 || what > 1) {
            return -1;
        }
        int best = (1 << c) - 1;
        for (int row = best; row >= 0; row--) {
            best = sumSize(c, row) <= sumSize(c, best) ? row : best;
        }
        return what == 0 ? best : sumSize(c, best);
    }
}
