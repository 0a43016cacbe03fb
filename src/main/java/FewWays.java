/**
 * Points in fewer ways: a table of distances and ten numbers, with questions about them that are
 * answered exactly. What each call promises is written in ../shared/DOC.md.
 *
 * <p>All rows are made with the object and used again: no call makes an object.
 */
public final class FewWays {
    public static final int BAD = -1, NO = -2, NONE = -4;

    private static final long BAD_BULK = -2000000000000000000L;
    private static final int BAD_NUMBER = -10000;

    private static final int FEWEST_POINTS = 2;
    private static final int MOST_POINTS = 6;
    private static final int FARTHEST = 30;
    private static final int MOST_NUMBERS = 10;
    private static final int GREATEST_NUMBER = 1000;
    private static final int GREATEST_SUM = MOST_NUMBERS * GREATEST_NUMBER;

    private final Table distances = new Table();
    private final Laws laws = new Laws(distances);
    private final Minors minors = new Minors(distances);
    private final Peeling peeling = new Peeling(distances);
    private final Layout layout = new Layout(distances);
    private final Choice choice = new Choice(distances);
    private final Signing signing = new Signing();

    public FewWays() {
    }

    public int table(int n) {
        if (n < FEWEST_POINTS || n > MOST_POINTS) {
            return BAD;
        }
        distances.reset(n);
        return n;
    }

    public int set(int i, int j, int d) {
        if (!distances.hasPair(i, j) || i == j || d < 0 || d > FARTHEST) {
            return BAD;
        }
        int was = distances.between(i, j);
        distances.put(i, j, d);
        return was;
    }

    public int at(int i, int j) {
        return distances.hasPair(i, j) ? distances.between(i, j) : BAD;
    }

    public int law(int law) {
        if (!Laws.hasLaw(law)) {
            return BAD;
        }
        laws.judge(law);
        return laws.firstCase;
    }

    public int breaks(int law) {
        if (!Laws.hasLaw(law)) {
            return BAD;
        }
        laws.judge(law);
        return laws.broken;
    }

    public int flat() {
        return minors.noneIsNegative() ? 1 : 0;
    }

    public int ways() {
        return minors.rank();
    }

    public long bulk(int k) {
        if (k < FEWEST_POINTS || k > distances.points) {
            return BAD_BULK;
        }
        return minors.determinant((1 << (k - 1)) - 1);
    }

    public int add(int cut, int w) {
        if (!distances.hasCut(cut) || w < -FARTHEST || w > FARTHEST) {
            return BAD;
        }
        if (!distances.bearsCut(cut, w)) {
            return NO;
        }
        distances.putCut(cut, w);
        return 0;
    }

    public int peel(int cut) {
        if (!distances.hasCut(cut)) {
            return BAD;
        }
        peeling.takeAll();
        return peeling.taken[cut];
    }

    public int left(int i, int j) {
        if (!distances.hasPair(i, j)) {
            return BAD;
        }
        peeling.takeAll();
        return peeling.rest.between(i, j);
    }

    public int line(int order, int i, int what) {
        if (what < 0 || what > 2 || !layout.isOrder(order)) {
            return BAD;
        }
        if (what == 0 && !distances.hasPoint(i)) {
            return BAD;
        }
        layout.lay(order);
        return what == 0 ? layout.places[i] : layout.stretchPart(what);
    }

    public int best(int what) {
        if (what < 0 || what > 2) {
            return BAD;
        }
        int order = layout.leastStretched();
        if (what == 0) {
            return order;
        }
        layout.lay(order);
        return layout.stretchPart(what);
    }

    public int centres(int k, int what, int part) {
        if (k < 1 || k > distances.points || what < 0 || what > 1 || part < 0 || part > 1) {
            return BAD;
        }
        int chosen = choice.nearest(k, what == 1);
        return part == 0 ? chosen : choice.cost(chosen, what == 1);
    }

    public int number(int i, int v) {
        if (i < 0 || i >= MOST_NUMBERS || v < -GREATEST_NUMBER || v > GREATEST_NUMBER) {
            return BAD_NUMBER;
        }
        int was = signing.numbers[i];
        signing.numbers[i] = v;
        return was;
    }

    public int signs(int c, int t) {
        if (!Signing.hasLength(c) || t < 0 || t > GREATEST_SUM) {
            return BAD;
        }
        return signing.rowsWithin(c, t);
    }

    public int least(int c, int what) {
        if (!Signing.hasLength(c) || what < 0 || what > 1) {
            return BAD;
        }
        int row = signing.smallestRow(c);
        return what == 0 ? row : signing.size(c, row);
    }

    public int count() {
        return distances.points;
    }

    private static boolean holds(int bits, int place) {
        return (bits >> place & 1) == 1;
    }

    private static boolean parts(int cut, int i, int j) {
        return holds(cut, i) != holds(cut, j);
    }

    /** How far each two points are from one another, kept both ways round. */
    private static final class Table {
        private final int[] cells = new int[MOST_POINTS * MOST_POINTS];
        private int points;

        Table() {
            reset(FEWEST_POINTS);
        }

        void reset(int n) {
            points = n;
            for (int i = 0; i < n; i++) {
                for (int j = 0; j < n; j++) {
                    cells[i * MOST_POINTS + j] = i == j ? 0 : 1;
                }
            }
        }

        void copyDoubled(Table other) {
            points = other.points;
            for (int cell = 0; cell < cells.length; cell++) {
                cells[cell] = 2 * other.cells[cell];
            }
        }

        boolean hasPoint(int i) {
            return i >= 0 && i < points;
        }

        boolean hasPair(int i, int j) {
            return hasPoint(i) && hasPoint(j);
        }

        boolean hasCut(int cut) {
            return cut > 0 && cut < 1 << points && !holds(cut, 0);
        }

        int between(int i, int j) {
            return cells[i * MOST_POINTS + j];
        }

        void put(int i, int j, int distance) {
            cells[i * MOST_POINTS + j] = distance;
            cells[j * MOST_POINTS + i] = distance;
        }

        boolean bearsCut(int cut, int times) {
            for (int i = 0; i < points; i++) {
                for (int j = i + 1; j < points; j++) {
                    int then = between(i, j) + times;
                    if (parts(cut, i, j) && (then < 0 || then > FARTHEST)) {
                        return false;
                    }
                }
            }
            return true;
        }

        void putCut(int cut, int times) {
            for (int i = 0; i < points; i++) {
                for (int j = i + 1; j < points; j++) {
                    if (parts(cut, i, j)) {
                        put(i, j, between(i, j) + times);
                    }
                }
            }
        }
    }

    /** The cases of a law that a table breaks; they are met in the order of their numbers. */
    private static final class Laws {
        private static final int DETOURS = 0, TREES = 1, NESTS = 2, WEIGHTS = 3;
        private static final int HEAVIEST = 2;
        private static final int WEIGHT_KINDS = 2 * HEAVIEST + 1;

        private final Table table;
        private final int[] weights = new int[MOST_POINTS];
        private int firstCase;
        private int broken;

        Laws(Table table) {
            this.table = table;
        }

        static boolean hasLaw(int law) {
            return law >= DETOURS && law <= WEIGHTS;
        }

        void judge(int law) {
            firstCase = NONE;
            broken = 0;
            switch (law) {
                case DETOURS:
                    judgeDetours();
                    break;
                case TREES:
                    judgeTrees();
                    break;
                case NESTS:
                    judgeNests();
                    break;
                default:
                    judgeWeights(0, 0, 0, 0);
                    break;
            }
        }

        private void note(int brokenCase) {
            if (broken == 0) {
                firstCase = brokenCase;
            }
            broken++;
        }

        private void judgeDetours() {
            int n = table.points;
            for (int i = 0; i < n; i++) {
                for (int j = 0; j < n; j++) {
                    for (int k = i + 1; k < n; k++) {
                        if (j != i && j != k && table.between(i, k) > table.between(i, j) + table.between(j, k)) {
                            note(i << 6 | j << 3 | k);
                        }
                    }
                }
            }
        }

        private void judgeTrees() {
            int n = table.points;
            for (int i = 0; i < n; i++) {
                for (int j = i + 1; j < n; j++) {
                    for (int k = j + 1; k < n; k++) {
                        for (int l = k + 1; l < n; l++) {
                            if (sumsStickOut(i, j, k, l)) {
                                note(i << 9 | j << 6 | k << 3 | l);
                            }
                        }
                    }
                }
            }
        }

        private boolean sumsStickOut(int i, int j, int k, int l) {
            return greatestIsAlone(
                    table.between(i, j) + table.between(k, l),
                    table.between(i, k) + table.between(j, l),
                    table.between(i, l) + table.between(j, k));
        }

        private void judgeNests() {
            int n = table.points;
            for (int i = 0; i < n; i++) {
                for (int j = i + 1; j < n; j++) {
                    for (int k = j + 1; k < n; k++) {
                        if (greatestIsAlone(table.between(i, j), table.between(i, k), table.between(j, k))) {
                            note(i << 6 | j << 3 | k);
                        }
                    }
                }
            }
        }

        private static boolean greatestIsAlone(int a, int b, int c) {
            return a > Math.max(b, c) || b > Math.max(a, c) || c > Math.max(a, b);
        }

        /**
         * Gives the points from this one on their weights; figures, sum and worth are of those before
         * it. The sum of 1 leaves the last point no choice.
         */
        private void judgeWeights(int point, int figures, int sum, int worth) {
            int pull = pullOn(point);
            if (point >= table.points - 1) {
                int last = 1 - sum;
                if (last >= -HEAVIEST && last <= HEAVIEST && worth + last * pull > 0) {
                    note(figures * WEIGHT_KINDS + last + HEAVIEST);
                }
                return;
            }
            for (int weight = -HEAVIEST; weight <= HEAVIEST; weight++) {
                weights[point] = weight;
                int longer = figures * WEIGHT_KINDS + weight + HEAVIEST;
                judgeWeights(point + 1, longer, sum + weight, worth + weight * pull);
            }
        }

        private int pullOn(int point) {
            int pull = 0;
            for (int i = 0; i < point; i++) {
                pull += weights[i] * table.between(i, point);
            }
            return pull;
        }
    }

    /**
     * Determinants of g for sets of rows and columns of like numbers: bit r of a set is point r + 1.
     *
     * <p>No determinant is beyond 1800 to the 5th times 5 to the 5/2 (Hadamard), which a long holds;
     * sums on the way may wrap round, which does not matter, since nothing is divided.
     */
    private static final class Minors {
        private final Table table;
        private final long[] found = new long[1 << (MOST_POINTS - 1)];

        Minors(Table table) {
            this.table = table;
        }

        boolean noneIsNegative() {
            for (int rows = 1; rows < 1 << (table.points - 1); rows++) {
                if (determinant(rows) < 0) {
                    return false;
                }
            }
            return true;
        }

        int rank() {
            int most = 0;
            for (int rows = 1; rows < 1 << (table.points - 1); rows++) {
                if (determinant(rows) != 0) {
                    most = Math.max(most, Integer.bitCount(rows));
                }
            }
            return most;
        }

        /** Each set of columns, with as many of the first rows, is expanded from smaller ones. */
        long determinant(int rows) {
            found[0] = 1;
            for (int columns = 1; columns <= rows; columns++) {
                if ((columns & ~rows) == 0) {
                    found[columns] = expand(memberAt(rows, Integer.bitCount(columns)), columns);
                }
            }
            return found[rows];
        }

        private long expand(int row, int columns) {
            long sum = 0;
            for (int column = 0; column < table.points - 1; column++) {
                if (holds(columns, column)) {
                    long term = product(row, column) * found[columns & ~(1 << column)];
                    boolean odd = (Integer.bitCount(columns >> (column + 1)) & 1) == 1;
                    sum += odd ? -term : term;
                }
            }
            return sum;
        }

        private long product(int row, int column) {
            return square(0, row + 1) + square(0, column + 1) - square(row + 1, column + 1);
        }

        private long square(int i, int j) {
            long distance = table.between(i, j);
            return distance * distance;
        }

        private static int memberAt(int set, int rank) {
            int seen = 0;
            for (int member = 0; member < MOST_POINTS; member++) {
                if (holds(set, member)) {
                    seen++;
                    if (seen == rank) {
                        return member;
                    }
                }
            }
            return 0;
        }
    }

    /** The cuts taken off a copy of a table; the copy counts halves, so that no half is lost. */
    private static final class Peeling {
        private final Table table;
        private final Table rest = new Table();
        private final Laws restLaws = new Laws(rest);
        private final int[] taken = new int[1 << MOST_POINTS];

        Peeling(Table table) {
            this.table = table;
        }

        /** Taking off never breaks the law, so it is asked but once, before the first cut. */
        void takeAll() {
            rest.copyDoubled(table);
            restLaws.judge(Laws.DETOURS);
            boolean lawful = restLaws.broken == 0;
            for (int cut = 2; cut < 1 << rest.points; cut += 2) {
                taken[cut] = lawful ? mostHalves(cut) : 0;
                rest.putCut(cut, -taken[cut]);
            }
        }

        /**
         * A cut that parts three points leaves one of them alone, and shortens both of its distances:
         * what the way by it has to spare shrinks by 2 each time, what the other two ways have to
         * spare stays. With i and k the same point this keeps the distance itself from falling below 0.
         */
        private int mostHalves(int cut) {
            int most = 2 * FARTHEST;
            for (int alone = 0; alone < rest.points; alone++) {
                for (int i = 0; i < rest.points; i++) {
                    for (int k = i; k < rest.points; k++) {
                        if (parts(cut, alone, i) && parts(cut, alone, k)) {
                            most = Math.min(most, spareWay(i, alone, k) / 2);
                        }
                    }
                }
            }
            return most;
        }

        private int spareWay(int i, int by, int k) {
            return rest.between(i, by) + rest.between(by, k) - rest.between(i, k);
        }
    }

    /** Points laid on a line one after the other, and how much the line stretches them. */
    private static final class Layout {
        private final Table table;
        private final int[] places = new int[MOST_POINTS];
        private int above;
        private int below;
        private int bestOrder;
        private int bestAbove;
        private int bestBelow;

        Layout(Table table) {
            this.table = table;
        }

        boolean isOrder(int order) {
            if (order < 0 || order >= 1 << (3 * table.points)) {
                return false;
            }
            int seen = 0;
            for (int turn = 0; turn < table.points; turn++) {
                seen |= 1 << pointAt(order, turn);
            }
            return seen == (1 << table.points) - 1;
        }

        private static int pointAt(int order, int turn) {
            return order >> (3 * turn) & 7;
        }

        void lay(int order) {
            for (int turn = 0; turn < table.points; turn++) {
                int point = pointAt(order, turn);
                if (table.hasPoint(point)) {
                    places[point] = leastPlace(order, turn, point);
                }
            }
            measureStretch();
        }

        private int leastPlace(int order, int turn, int point) {
            int place = 0;
            for (int earlier = 0; earlier < turn; earlier++) {
                int ahead = pointAt(order, earlier);
                if (table.hasPoint(ahead)) {
                    place = Math.max(place, places[ahead] + table.between(ahead, point));
                }
            }
            return place;
        }

        private void measureStretch() {
            above = 0;
            below = 1;
            for (int i = 0; i < table.points; i++) {
                for (int j = i + 1; j < table.points; j++) {
                    int distance = table.between(i, j);
                    int apart = Math.abs(places[i] - places[j]);
                    if (distance > 0 && apart * below > above * distance) {
                        above = apart;
                        below = distance;
                    }
                }
            }
        }

        int stretchPart(int what) {
            int part = what == 1 ? above : below;
            for (int factor = below; factor > 1; factor--) {
                if (above % factor == 0 && below % factor == 0) {
                    return part / factor;
                }
            }
            return part;
        }

        int leastStretched() {
            bestOrder = NONE;
            tryOrders(0, 0, 0);
            return bestOrder;
        }

        /** Lower points are tried first, so that of equal orders the first one stays. */
        private void tryOrders(int turn, int used, int order) {
            if (turn >= table.points) {
                lay(order);
                keepIfBetter(order);
                return;
            }
            for (int point = 0; point < table.points; point++) {
                if (!holds(used, point)) {
                    tryOrders(turn + 1, used | 1 << point, order | point << (3 * turn));
                }
            }
        }

        private void keepIfBetter(int order) {
            if (bestOrder == NONE || above * bestBelow < bestAbove * below) {
                bestOrder = order;
                bestAbove = above;
                bestBelow = below;
            }
        }
    }

    /** Small sets of points that stand for all of them. */
    private static final class Choice {
        private final Table table;

        Choice(Table table) {
            this.table = table;
        }

        int nearest(int size, boolean summed) {
            int chosen = 0;
            int lowest = 0;
            for (int centres = 1; centres < 1 << table.points; centres++) {
                if (Integer.bitCount(centres) == size) {
                    int cost = cost(centres, summed);
                    if (chosen == 0 || cost < lowest) {
                        chosen = centres;
                        lowest = cost;
                    }
                }
            }
            return chosen;
        }

        int cost(int centres, boolean summed) {
            int sum = 0;
            int greatest = 0;
            for (int point = 0; point < table.points; point++) {
                int way = wayToNearest(centres, point);
                sum += way;
                greatest = Math.max(greatest, way);
            }
            return summed ? sum : greatest;
        }

        private int wayToNearest(int centres, int point) {
            int way = FARTHEST;
            for (int centre = 0; centre < table.points; centre++) {
                if (holds(centres, centre)) {
                    way = Math.min(way, table.between(point, centre));
                }
            }
            return way;
        }
    }

    /** Ten numbers, and the sums that rows of signs make of the first of them. */
    private static final class Signing {
        private final int[] numbers = new int[MOST_NUMBERS];

        static boolean hasLength(int length) {
            return length >= 1 && length <= MOST_NUMBERS;
        }

        int size(int length, int row) {
            int sum = 0;
            for (int i = 0; i < length; i++) {
                sum += holds(row, i) ? -numbers[i] : numbers[i];
            }
            return Math.abs(sum);
        }

        int rowsWithin(int length, int size) {
            int rows = 0;
            for (int row = 0; row < 1 << length; row++) {
                if (size(length, row) <= size) {
                    rows++;
                }
            }
            return rows;
        }

        int smallestRow(int length) {
            int smallest = 0;
            int least = size(length, smallest);
            for (int row = 1; row < 1 << length; row++) {
                int size = size(length, row);
                if (size < least) {
                    smallest = row;
                    least = size;
                }
            }
            return smallest;
        }
    }
}
