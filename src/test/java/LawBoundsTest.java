/** The boundary cases of promises 5 and 6: law, breaks. */
public final class LawBoundsTest {
    private static final Check CHECK = new Check("LawBoundsTest");
    private static final int NONE = -4;
    private static final int[] EVENS = {0, 1, 30};

    public static void main(String[] args) {
        laws();
        noSuchLaw();
        nothingChanges();
        noneBroken();
        tooFewPoints();
        pointsGoneAgain();
        detourAsLong();
        detourEnds();
        detourOnceOnly();
        detourFirstAndLast();
        detourAll();
        treeTwice();
        treeEnds();
        treeFirstAndLast();
        treeAll();
        nestTwice();
        nestEnds();
        nestFirstAndLast();
        nestAll();
        weightsOfTwo();
        weightsJustAbove();
        weightsNoThrees();
        weightsFirst();
        weightsLast();
        weightsFarthest();
        CHECK.end(5, 6);
    }

    /** One sentence bounds both: which case is the first (5), and how many there are (6). */
    private static void judge(String words, FewWays x, int law, int first, int many) {
        String table = Make.all(x);
        CHECK.sentence(5, words);
        CHECK.due("law(" + law + ") of " + table, x.law(law), first);
        CHECK.sentence(6, words);
        CHECK.due("breaks(" + law + ") of " + table, x.breaks(law), many);
    }

    private static void laws() {
        FewWays x = Make.table(4, 3, 1, 1, 1, 1, 1);
        int[] first = {17, 83, 10, 91 * 5 + 2};
        int[] many = {2, 1, 2, Model.of(x).breaks(3)};
        CHECK.sentence(5, "The first CASE that breaks a LAW (0 to 3).");
        CHECK.due("law(-1)", x.law(-1), -1);
        for (int law = 0; law <= 3; law++) {
            CHECK.due("law(" + law + ")", x.law(law), first[law]);
        }
        CHECK.due("law(4)", x.law(4), -1);
        CHECK.sentence(6, "How many CASES break a LAW.");
        CHECK.due("breaks(-1)", x.breaks(-1), -1);
        for (int law = 0; law <= 3; law++) {
            CHECK.due("breaks(" + law + ")", x.breaks(law), many[law]);
        }
        CHECK.due("breaks(4)", x.breaks(4), -1);
    }

    private static void noSuchLaw() {
        int[] beyond = Edges.beyond(0, 3);
        for (int n = 2; n <= 6; n++) {
            FewWays x = Make.busy(n);
            CHECK.sentence(5, "NONE; BAD.");
            for (int law : beyond) {
                CHECK.due("law(" + law + ")", x.law(law), -1);
            }
            CHECK.sentence(6, "How many CASES break a LAW. BAD.");
            for (int law : beyond) {
                CHECK.due("breaks(" + law + ")", x.breaks(law), -1);
            }
        }
    }

    private static void nothingChanges() {
        FewWays x = Make.busy(6);
        String before = Make.state(x);
        CHECK.sentence(5, "nothing changes then");
        for (int law : Edges.beyond(0, 3)) {
            x.law(law);
        }
        x.law(3);
        CHECK.same("law", before, x);
        CHECK.sentence(6, "nothing changes then");
        for (int law : Edges.beyond(0, 3)) {
            x.breaks(law);
        }
        x.breaks(3);
        CHECK.same("breaks", before, x);
    }

    private static void noneBroken() {
        for (int n = 2; n <= 6; n++) {
            for (int distance : EVENS) {
                String table = n + " points, all " + distance;
                FewWays x = Make.even(n, distance);
                CHECK.sentence(5, "The first CASE that breaks a LAW (0 to 3). NONE");
                for (int law = 0; law <= 3; law++) {
                    CHECK.due("law(" + law + ") of " + table, x.law(law), NONE);
                }
                CHECK.sentence(6, "How many CASES break a LAW.");
                for (int law = 0; law <= 3; law++) {
                    CHECK.due("breaks(" + law + ") of " + table, x.breaks(law), 0);
                }
            }
        }
    }

    private static void tooFewPoints() {
        for (int distance = 0; distance <= 30; distance += 10) {
            FewWays two = Make.even(2, distance);
            judge("0 of three points i, j, k", two, 0, NONE, 0);
            judge("1 of four", two, 1, NONE, 0);
            judge("2 of three", two, 2, NONE, 0);
        }
        judge("1 of four", Make.table(3, 30, 0, 0), 1, NONE, 0);
        judge("1 of four", Make.table(3, 1, 7, 30), 1, NONE, 0);
        judge("0 of three points i, j, k", Make.table(3, 30, 0, 0), 0, 17, 1);
        judge("2 of three", Make.table(3, 30, 0, 0), 2, 10, 1);
        judge("1 of four", Make.table(4, 30, 0, 0, 0, 0, 0), 1, 83, 1);
    }

    private static void pointsGoneAgain() {
        FewWays x = squares();
        x.table(3);
        for (int law = 0; law <= 3; law++) {
            judge("POINTS 0 .. n - 1", x, law, NONE, 0);
        }
        x.set(0, 1, 3);
        judge("POINTS 0 .. n - 1", x, 0, 17, 1);
        judge("POINTS 0 .. n - 1", x, 2, 10, 1);
        x.table(2);
        for (int law = 0; law <= 3; law++) {
            judge("POINTS 0 .. n - 1", x, law, NONE, 0);
        }
    }

    private static FewWays squares() {
        FewWays x = new FewWays();
        x.table(6);
        for (int i = 0; i < 6; i++) {
            for (int j = i + 1; j < 6; j++) {
                x.set(i, j, (j - i) * (j - i));
            }
        }
        return x;
    }

    private static void detourAsLong() {
        String words = "DISTANCE i, k is above i, j and j, k together";
        judge(words, Make.table(3, 2, 4, 2), 0, NONE, 0);
        judge(words, Make.table(3, 2, 5, 2), 0, 10, 1);
        judge(words, Make.table(3, 4, 2, 2), 0, NONE, 0);
        judge(words, Make.table(3, 5, 2, 2), 0, 17, 1);
        judge(words, Make.table(3, 2, 2, 4), 0, NONE, 0);
        judge(words, Make.table(3, 2, 2, 5), 0, 66, 1);
    }

    private static void detourEnds() {
        String words = "DISTANCE i, k is above i, j and j, k together";
        judge(words, Make.table(3, 15, 30, 15), 0, NONE, 0);
        judge(words, Make.table(3, 15, 30, 14), 0, 10, 1);
        judge(words, Make.table(3, 0, 30, 30), 0, NONE, 0);
        judge(words, Make.table(3, 0, 30, 29), 0, 10, 1);
        judge(words, Make.table(3, 0, 0, 0), 0, NONE, 0);
        judge(words, Make.table(3, 0, 1, 0), 0, 10, 1);
        judge(words, Make.table(3, 30, 30, 30), 0, NONE, 0);
        judge(words, Make.table(3, 0, 30, 0), 0, 10, 1);
    }

    /** Each way round counts from its lower end alone. */
    private static void detourOnceOnly() {
        String words = "(all unlike; i below k)";
        judge(words, Make.table(3, 1, 1, 3), 0, 64 + 2, 1);
        FewWays x = Make.even(6, 1);
        x.set(0, 5, 3);
        judge(words, x, 0, 8 + 5, 4);
        x.set(0, 5, 2);
        judge(words, x, 0, NONE, 0);
    }

    private static void detourFirstAndLast() {
        FewWays first = Make.even(6, 2);
        first.set(0, 1, 1);
        first.set(1, 2, 1);
        first.set(0, 2, 3);
        judge("the first CASE is the least number", first, 0, 8 + 2, 1);
        FewWays last = Make.even(6, 2);
        last.set(3, 4, 1);
        last.set(3, 5, 1);
        last.set(4, 5, 3);
        judge("the POINTS as figures to the base 8, the first one highest", last, 0, 4 * 64 + 3 * 8 + 5, 1);
    }

    private static void detourAll() {
        judge("the first CASE is the least number", squares(), 0, 10, 20);
    }

    private static void treeTwice() {
        String words = "the greatest is not there twice";
        judge(words, Make.table(4, 5, 5, 5, 5, 5, 5), 1, NONE, 0);
        judge(words, Make.table(4, 5, 5, 5, 5, 5, 6), 1, 83, 1);
        judge(words, Make.table(4, 5, 5, 5, 5, 6, 6), 1, NONE, 0);
        judge(words, Make.table(4, 5, 5, 5, 6, 5, 6), 1, NONE, 0);
        judge(words, Make.table(4, 5, 5, 5, 6, 6, 5), 1, NONE, 0);
        judge(words, Make.table(4, 5, 5, 5, 6, 7, 5), 1, 83, 1);
        judge(words, Make.table(4, 5, 5, 5, 7, 6, 5), 1, 83, 1);
        judge(words, Make.table(4, 5, 5, 5, 7, 5, 6), 1, 83, 1);
        judge(words, Make.table(4, 5, 5, 5, 4, 5, 4), 1, 83, 1);
        judge(words, Make.table(4, 5, 5, 5, 4, 5, 5), 1, NONE, 0);
    }

    private static void treeEnds() {
        String words = "of the three sums i j and k l, i k and j l, i l and j k";
        judge(words, Make.table(4, 30, 30, 29, 29, 30, 30), 1, NONE, 0);
        judge(words, Make.table(4, 30, 30, 29, 29, 29, 30), 1, 83, 1);
        judge(words, Make.table(4, 0, 0, 0, 0, 0, 0), 1, NONE, 0);
        judge(words, Make.table(4, 0, 0, 0, 1, 0, 0), 1, 83, 1);
        judge(words, Make.table(4, 0, 0, 0, 1, 1, 0), 1, NONE, 0);
        judge(words, Make.table(4, 0, 30, 30, 30, 30, 0), 1, NONE, 0);
        judge(words, Make.table(4, 30, 0, 0, 0, 0, 30), 1, 83, 1);
    }

    private static void treeFirstAndLast() {
        FewWays last = Make.even(6, 10);
        last.set(0, 1, 0);
        last.set(0, 2, 0);
        last.set(1, 2, 0);
        last.set(4, 5, 11);
        judge("the POINTS as figures to the base 8, the first one highest", last, 1, 3 * 64 + 4 * 8 + 5, 3);
        FewWays tail = Make.even(6, 10);
        tail.set(4, 5, 11);
        judge("i below j below k below l", tail, 1, 64 + 4 * 8 + 5, 6);
        FewWays head = Make.even(6, 10);
        head.set(0, 1, 11);
        judge("the first CASE is the least number", head, 1, 83, 6);
        FewWays five = Make.even(5, 10);
        five.set(3, 4, 11);
        judge("i below j below k below l", five, 1, 64 + 3 * 8 + 4, 3);
    }

    private static void treeAll() {
        judge("i below j below k below l", squares(), 1, 83, 15);
    }

    private static void nestTwice() {
        String words = "of the three DISTANCES the greatest is not there twice";
        judge(words, Make.table(3, 5, 5, 5), 2, NONE, 0);
        judge(words, Make.table(3, 5, 5, 6), 2, 10, 1);
        judge(words, Make.table(3, 5, 6, 5), 2, 10, 1);
        judge(words, Make.table(3, 6, 5, 5), 2, 10, 1);
        judge(words, Make.table(3, 5, 6, 6), 2, NONE, 0);
        judge(words, Make.table(3, 6, 5, 6), 2, NONE, 0);
        judge(words, Make.table(3, 6, 6, 5), 2, NONE, 0);
        judge(words, Make.table(3, 5, 6, 7), 2, 10, 1);
        judge(words, Make.table(3, 7, 6, 5), 2, 10, 1);
        judge(words, Make.table(3, 6, 7, 5), 2, 10, 1);
    }

    private static void nestEnds() {
        String words = "of the three DISTANCES the greatest is not there twice";
        judge(words, Make.table(3, 0, 0, 0), 2, NONE, 0);
        judge(words, Make.table(3, 0, 0, 1), 2, 10, 1);
        judge(words, Make.table(3, 0, 30, 30), 2, NONE, 0);
        judge(words, Make.table(3, 30, 30, 30), 2, NONE, 0);
        judge(words, Make.table(3, 30, 29, 29), 2, 10, 1);
        judge(words, Make.table(3, 0, 30, 29), 2, 10, 1);
    }

    private static void nestFirstAndLast() {
        FewWays last = Make.even(6, 10);
        last.set(3, 4, 9);
        last.set(3, 5, 8);
        last.set(4, 5, 8);
        judge("2 of three, i below j below k", last, 2, 3 * 64 + 4 * 8 + 5, 1);
        FewWays first = Make.even(6, 10);
        first.set(0, 1, 9);
        first.set(0, 2, 8);
        first.set(1, 2, 8);
        judge("the first CASE is the least number", first, 2, 8 + 2, 1);
        last.set(0, 1, 9);
        last.set(0, 2, 8);
        last.set(1, 2, 8);
        judge("the first CASE is the least number", last, 2, 8 + 2, 2);
    }

    private static void nestAll() {
        judge("2 of three, i below j below k", squares(), 2, 10, 20);
    }

    /** Only 2 with -1, and 1 with 0, have the sum 1: no product is above 0. */
    private static void weightsOfTwo() {
        for (int distance = 0; distance <= 30; distance += 10) {
            judge("whole numbers b of all POINTS, -2 to 2 each, with sum 1", Make.even(2, distance), 3, NONE, 0);
        }
    }

    /** With one less, each of these tables has 0 for its one case; 2 and -2 stand at either end. */
    private static void weightsJustAbove() {
        String words = "the sum over pairs of b b times DISTANCE is above 0";
        int[][] cases = {
            {14781, 10, 10, 8, 5, 7, 7, 5, 7, 7, 8, 5, 7, 7, 8, 8},
            {11705, 8, 8, 8, 8, 8, 8, 7, 7, 7, 7, 5, 5, 5, 5, 10},
            {1093, 10, 5, 7, 5, 7, 8, 5, 7, 8, 8, 5, 7, 8, 8, 8},
            {3969, 8, 8, 8, 7, 7, 7, 7, 7, 7, 8, 5, 5, 5, 10, 10}
        };
        for (int[] row : cases) {
            FewWays x = Make.table(6, java.util.Arrays.copyOfRange(row, 1, row.length));
            judge(words, x, 3, NONE, 0);
            x.set(0, 1, x.at(0, 1) + 1);
            judge(words, x, 3, row[0], 1);
        }
        judge(words, Make.table(3, 1, 2, 1), 3, NONE, 0);
        judge(words, Make.table(3, 1, 3, 1), 3, 3 * 25 + 5 + 3, 1);
        judge(words, Make.table(3, 15, 15, 30), 3, NONE, 0);
        judge(words, Make.table(3, 14, 15, 30), 3, 25 + 3 * 5 + 3, 1);
    }

    /** 2, 2 and -3 would break it too. */
    private static void weightsNoThrees() {
        judge("-2 to 2 each", Make.table(3, 4, 1, 1), 3, 91, 3);
        judge("-2 to 2 each", Make.table(3, 30, 0, 0), 3, 3 * 25 + 3 * 5 + 1, 3);
    }

    private static void weightsFirst() {
        String words = "b and 2 as figures to the base 5, that of POINT 0 highest; the first CASE is the least number";
        int[] first = {19, 49, 99, 249};
        for (int n = 3; n <= 6; n++) {
            FewWays x = Make.even(n, 0);
            x.set(n - 2, n - 1, 30);
            judge(words, x, 3, first[n - 3], Model.of(x).breaks(3));
        }
    }

    private static void weightsLast() {
        String words = "b and 2 as figures to the base 5, that of POINT 0 highest";
        judge(words, Make.table(3, 3, 1, 1), 3, 3 * 25 + 3 * 5 + 1, 1);
        judge(words, Make.table(5, 1, 1, 2, 2, 1, 1, 2, 1, 1, 2), 3, 1231, 11);
        int[] pentagon = {26, 28, 28, 15, 20, 20, 18, 15, 18, 29, 29, 22, 26, 28, 19};
        judge(words, Make.table(6, pentagon), 3, 11657, 1);
    }

    private static void weightsFarthest() {
        FewWays x = Make.even(6, 0);
        for (int i = 0; i < 3; i++) {
            for (int j = i + 1; j < 3; j++) {
                x.set(i, j, 30);
                x.set(i + 3, j + 3, 30);
            }
        }
        judge("the sum over pairs of b b times DISTANCE is above 0", x, 3, 249, 366);
    }
}
