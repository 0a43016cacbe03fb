/** The boundary cases of promise 15: centres. */
public final class CentreBoundsTest {
    private static final Check CHECK = new Check("CentreBoundsTest");
    private static final int BAD = -1;

    public static void main(String[] args) {
        sizes();
        noSize();
        whats();
        parts();
        onePoint();
        allPoints();
        allAtNothing();
        allFarthest();
        leastBits();
        greatestAgainstSum();
        lastPoints();
        pointsGone();
        nothingChanges();
        CHECK.end(15);
    }

    private static void centres(FewWays x, int k, int what, int set, int least) {
        String call = "centres(" + k + ", " + what + ", ";
        CHECK.due(call + "0) of " + x.count(), x.centres(k, what, 0), set);
        CHECK.due(call + "1) of " + x.count(), x.centres(k, what, 1), least);
    }

    private static void sizes() {
        CHECK.sentence(15, "CENTRES, k (1 to n) of them");
        for (int n = 2; n <= 6; n++) {
            FewWays x = Make.even(n, 7);
            for (int what = 0; what <= 1; what++) {
                centres(x, 0, what, BAD, BAD);
                centres(x, 1, what, 1, what == 0 ? 7 : 7 * (n - 1));
                centres(x, n - 1, what, (1 << n - 1) - 1, 7);
                centres(x, n, what, (1 << n) - 1, 0);
                centres(x, n + 1, what, BAD, BAD);
                centres(x, -1, what, BAD, BAD);
            }
        }
    }

    private static void noSize() {
        CHECK.sentence(15, "a number is none that is told, there is no such thing");
        for (int n = 2; n <= 6; n++) {
            FewWays x = Make.busy(6);
            x.table(n);
            for (int k : Edges.beyond(1, n)) {
                centres(x, k, 0, BAD, BAD);
                centres(x, k, 1, BAD, BAD);
            }
        }
    }

    private static void whats() {
        CHECK.sentence(15, "is least (what = 0), the sum of these is (1)");
        FewWays x = Make.onLine(0, 1, 2, 10);
        centres(x, 1, 0, 4, 8);
        centres(x, 1, 1, 2, 11);
        centres(x, 1, 2, BAD, BAD);
        centres(x, 1, -1, BAD, BAD);
        for (int what : Edges.beyond(0, 1)) {
            centres(x, 1, what, BAD, BAD);
            centres(x, 4, what, BAD, BAD);
        }
    }

    private static void parts() {
        CHECK.sentence(15, "the set as bits (part 0), what is least (1). BAD.");
        FewWays x = Make.onLine(0, 1, 2, 10);
        CHECK.due("centres(2, 0, 0)", x.centres(2, 0, 0), 10);
        CHECK.due("centres(2, 0, 1)", x.centres(2, 0, 1), 1);
        CHECK.due("centres(2, 0, 2)", x.centres(2, 0, 2), BAD);
        CHECK.due("centres(2, 0, -1)", x.centres(2, 0, -1), BAD);
        for (int part : Edges.beyond(0, 1)) {
            CHECK.due("centres(2, 0, " + part + ")", x.centres(2, 0, part), BAD);
            CHECK.due("centres(2, 1, " + part + ")", x.centres(2, 1, part), BAD);
        }
    }

    private static void onePoint() {
        CHECK.sentence(15, "of sets of k POINTS");
        for (int n = 2; n <= 6; n++) {
            for (int middle = 0; middle < n; middle++) {
                FewWays x = Make.even(n, 30);
                for (int i = 0; i < n; i++) {
                    x.set(middle, i, 29);
                }
                centres(x, 1, 0, n == 2 ? 1 : 1 << middle, 29);
                centres(x, 1, 1, n == 2 ? 1 : 1 << middle, 29 * (n - 1));
            }
        }
    }

    private static void allPoints() {
        CHECK.sentence(15, "k (1 to n) of them");
        for (int n = 2; n <= 6; n++) {
            centres(Make.even(n, 30), n, 0, (1 << n) - 1, 0);
            centres(Make.even(n, 30), n, 1, (1 << n) - 1, 0);
            centres(Make.busy(n), n, 0, (1 << n) - 1, 0);
            centres(Make.busy(n), n, 1, (1 << n) - 1, 0);
        }
    }

    private static void allAtNothing() {
        CHECK.sentence(15, "of several that with the least bits");
        for (int n = 2; n <= 6; n++) {
            FewWays x = Make.even(n, 0);
            for (int k = 1; k <= n; k++) {
                centres(x, k, 0, (1 << k) - 1, 0);
                centres(x, k, 1, (1 << k) - 1, 0);
            }
        }
    }

    private static void allFarthest() {
        CHECK.sentence(15, "the greatest of DISTANCES from each POINT to its nearest of the set");
        for (int n = 2; n <= 6; n++) {
            FewWays x = Make.even(n, 30);
            for (int k = 1; k < n; k++) {
                centres(x, k, 0, (1 << k) - 1, 30);
                centres(x, k, 1, (1 << k) - 1, 30 * (n - k));
            }
        }
    }

    private static void leastBits() {
        CHECK.sentence(15, "of several that with the least bits");
        FewWays ends = Make.onLine(0, 1, 2, 3);
        centres(ends, 1, 0, 2, 2);
        centres(ends, 2, 0, 5, 1);
        centres(ends, 2, 1, 5, 2);
        centres(ends, 3, 0, 7, 1);
        FewWays pairs = Make.even(4, 30);
        pairs.set(0, 1, 1);
        pairs.set(2, 3, 1);
        centres(pairs, 2, 0, 5, 1);
        centres(pairs, 2, 1, 5, 2);
    }

    private static void greatestAgainstSum() {
        CHECK.sentence(15, "the sum of these is (1)");
        FewWays x = Make.onLine(0, 0, 0, 0, 30, 15);
        centres(x, 1, 0, 32, 15);
        centres(x, 1, 1, 1, 45);
    }

    private static void lastPoints() {
        CHECK.sentence(15, "the set as bits (part 0)");
        FewWays x = Make.even(6, 30);
        x.set(0, 5, 0);
        x.set(1, 4, 0);
        for (int i = 0; i < 5; i++) {
            x.set(i, 5, 1);
        }
        centres(x, 1, 0, 32, 1);
        centres(x, 1, 1, 32, 5);
        FewWays far = Make.onLine(0, 0, 0, 10, 20, 30);
        centres(far, 4, 0, 1 + 8 + 16 + 32, 0);
        centres(far, 4, 1, 1 + 8 + 16 + 32, 0);
    }

    private static void pointsGone() {
        CHECK.sentence(15, "k (1 to n) of them");
        FewWays x = Make.even(6, 30);
        x.table(3);
        centres(x, 1, 0, 1, 1);
        centres(x, 1, 1, 1, 2);
        centres(x, 3, 1, 7, 0);
        centres(x, 4, 1, BAD, BAD);
    }

    private static void nothingChanges() {
        CHECK.sentence(15, "nothing changes then");
        FewWays x = Make.busy(5);
        String before = Make.state(x);
        for (int none : Edges.beyond(1, 5)) {
            x.centres(none, 0, 0);
            x.centres(2, none, 0);
            x.centres(2, 0, none);
        }
        x.centres(5, 1, 1);
        x.centres(1, 0, 0);
        CHECK.same("centres", before, x);
    }
}
