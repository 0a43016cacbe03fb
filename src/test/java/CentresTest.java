/** Promise 15: centres. */
public final class CentresTest {
    private static final Check CHECK = new Check("CentresTest");

    public static void main(String[] args) {
        evenPath();
        pathWithAnEnd();
        edges();
        lawless();
        wrongCalls();
        CHECK.end();
    }

    private static void centres(FewWays x, int k, int what, int set, int least) {
        CHECK.due("centres(" + k + ", " + what + ", 0)", x.centres(k, what, 0), set);
        CHECK.due("centres(" + k + ", " + what + ", 1)", x.centres(k, what, 1), least);
    }

    private static void evenPath() {
        FewWays x = Make.onLine(0, 1, 2, 3);
        centres(x, 1, 0, 2, 2);
        centres(x, 1, 1, 2, 4);
        centres(x, 2, 0, 5, 1);
        centres(x, 2, 1, 5, 2);
        centres(x, 3, 0, 7, 1);
        centres(x, 3, 1, 7, 1);
        centres(x, 4, 0, 15, 0);
        centres(x, 4, 1, 15, 0);
    }

    private static void pathWithAnEnd() {
        FewWays x = Make.onLine(0, 1, 2, 10);
        centres(x, 1, 0, 4, 8);
        centres(x, 1, 1, 2, 11);
        centres(x, 2, 0, 10, 1);
        centres(x, 2, 1, 10, 2);
    }

    private static void edges() {
        for (int n = 2; n <= 6; n++) {
            FewWays none = Make.even(n, 0);
            FewWays far = Make.even(n, 30);
            for (int k = 1; k <= n; k++) {
                int first = (1 << k) - 1;
                centres(none, k, 0, first, 0);
                centres(none, k, 1, first, 0);
                centres(far, k, 0, first, k == n ? 0 : 30);
                centres(far, k, 1, first, 30 * (n - k));
            }
        }
        FewWays last = Make.even(6, 30);
        for (int i = 0; i < 5; i++) {
            last.set(5, i, 1);
        }
        centres(last, 1, 0, 32, 1);
        centres(last, 1, 1, 32, 5);
        centres(last, 2, 0, 33, 1);
        centres(last, 2, 1, 33, 4);
    }

    /** Nearest by the table's own distances, not by ways through others. */
    private static void lawless() {
        FewWays x = Make.table(3, 1, 30, 1);
        centres(x, 1, 0, 2, 1);
        centres(x, 1, 1, 2, 2);
        x.set(0, 1, 29);
        centres(x, 1, 0, 2, 29);
        centres(x, 1, 1, 2, 30);
        x.set(0, 1, 30);
        centres(x, 1, 0, 1, 30);
        centres(x, 1, 1, 2, 31);
    }

    private static void wrongCalls() {
        FewWays x = Make.onLine(0, 1, 2, 10);
        String before = Make.all(x);
        int[] wrongSizes = {Integer.MIN_VALUE, -1, 0, 5, 6, 7, Integer.MAX_VALUE};
        for (int k : wrongSizes) {
            CHECK.due("centres(" + k + ", 0, 0)", x.centres(k, 0, 0), FewWays.BAD);
            CHECK.due("centres(" + k + ", 1, 1)", x.centres(k, 1, 1), FewWays.BAD);
        }
        int[] wrong = {Integer.MIN_VALUE, -1, 2, 3, Integer.MAX_VALUE};
        for (int none : wrong) {
            CHECK.due("centres(1, " + none + ", 0)", x.centres(1, none, 0), FewWays.BAD);
            CHECK.due("centres(1, 0, " + none + ")", x.centres(1, 0, none), FewWays.BAD);
        }
        CHECK.holds("centres change nothing", before.equals(Make.all(x)));
    }
}
