/** Promises 13 and 14: line, best. */
public final class LineTest {
    private static final Check CHECK = new Check("LineTest");

    public static void main(String[] args) {
        triangle();
        notBelowThoseAhead();
        lowestTerms();
        nothingToStretch();
        greatest();
        bestOfEqual();
        wrongOrders();
        wrongParts();
        CHECK.end();
    }

    private static void line(FewWays x, int order, int above, int below, int... places) {
        for (int i = 0; i < places.length; i++) {
            CHECK.due("line(" + order + ", " + i + ", 0)", x.line(order, i, 0), places[i]);
        }
        CHECK.due("line(" + order + ", 0, 1)", x.line(order, 0, 1), above);
        CHECK.due("line(" + order + ", 0, 2)", x.line(order, 0, 2), below);
    }

    private static void best(FewWays x, int order, int above, int below) {
        CHECK.due("best(0)", x.best(0), order);
        CHECK.due("best(1)", x.best(1), above);
        CHECK.due("best(2)", x.best(2), below);
    }

    private static void triangle() {
        FewWays x = Make.table(3, 3, 4, 5);
        line(x, Make.order(0, 1, 2), 2, 1, 0, 3, 8);
        line(x, Make.order(0, 2, 1), 3, 1, 0, 9, 4);
        line(x, Make.order(1, 0, 2), 7, 5, 3, 0, 7);
        line(x, Make.order(1, 2, 0), 3, 1, 9, 0, 5);
        line(x, Make.order(2, 0, 1), 7, 5, 4, 7, 0);
        line(x, Make.order(2, 1, 0), 2, 1, 8, 5, 0);
        best(x, 129, 7, 5);
    }

    private static void notBelowThoseAhead() {
        FewWays x = Make.table(3, 5, 1, 0);
        line(x, Make.order(0, 1, 2), 5, 1, 0, 5, 5);
        line(x, Make.order(0, 2, 1), 1, 1, 0, 5, 1);
        best(x, Make.order(0, 2, 1), 1, 1);
        FewWays broken = Make.table(3, 1, 30, 1);
        line(broken, Make.order(0, 1, 2), 29, 1, 0, 1, 30);
    }

    private static void lowestTerms() {
        FewWays x = Make.table(3, 6, 8, 10);
        line(x, Make.order(1, 0, 2), 7, 5, 6, 0, 14);
        best(x, 129, 7, 5);
        FewWays wide = Make.table(3, 15, 15, 30);
        line(wide, Make.order(0, 1, 2), 3, 1, 0, 15, 45);
        line(wide, Make.order(1, 0, 2), 1, 1, 15, 0, 30);
    }

    private static void nothingToStretch() {
        for (int n = 2; n <= 6; n++) {
            FewWays x = Make.even(n, 0);
            int[] ahead = {0, 1, 2, 3, 4, 5};
            int[] some = new int[n];
            System.arraycopy(ahead, 0, some, 0, n);
            line(x, Make.order(some), 0, 1, new int[n]);
            best(x, Make.order(some), 0, 1);
        }
    }

    private static void greatest() {
        FewWays x = Make.even(6, 30);
        line(x, Make.order(5, 4, 3, 2, 1, 0), 5, 1, 150, 120, 90, 60, 30, 0);
        best(x, Make.order(0, 1, 2, 3, 4, 5), 5, 1);
        FewWays one = Make.even(6, 30);
        one.set(0, 5, 1);
        line(one, Make.order(0, 1, 2, 3, 4, 5), 150, 1, 0, 30, 60, 90, 120, 150);
        line(one, Make.order(0, 5, 1, 2, 3, 4), 121, 30, 0, 31, 61, 91, 121, 1);
        FewWays two = Make.even(2, 30);
        line(two, Make.order(0, 1), 1, 1, 0, 30);
        line(two, Make.order(1, 0), 1, 1, 30, 0);
        best(two, 8, 1, 1);
    }

    private static void bestOfEqual() {
        FewWays x = Make.onLine(7, 0, 12, 3, 30, 13);
        best(x, Make.order(1, 3, 0, 2, 5, 4), 1, 1);
        FewWays back = Make.onLine(7, 30, 12, 3, 0, 13);
        best(back, Make.order(1, 5, 2, 0, 3, 4), 1, 1);
        FewWays even = Make.even(5, 1);
        best(even, Make.order(0, 1, 2, 3, 4), 4, 1);
        FewWays twoInOne = Make.table(3, 5, 5, 0);
        best(twoInOne, Make.order(0, 1, 2), 1, 1);
        twoInOne.set(0, 1, 6);
        best(twoInOne, Make.order(0, 2, 1), 1, 1);
    }

    private static void wrongOrders() {
        FewWays x = Make.table(3, 3, 4, 5);
        int[] wrong = {
            Integer.MIN_VALUE, -1, 0, 1, 8, Make.order(0, 1), Make.order(0, 0, 1), Make.order(0, 1, 1),
            Make.order(1, 2, 1), Make.order(0, 1, 3), Make.order(7, 1, 2), Make.order(0, 6, 2),
            Make.order(0, 1, 2, 1), Make.order(0, 1, 2, 3), Make.order(0, 1, 2) | 1 << 30,
            Make.order(0, 1, 2) | Integer.MIN_VALUE, Integer.MAX_VALUE
        };
        for (int order : wrong) {
            for (int what = 0; what <= 2; what++) {
                CHECK.due("line(" + order + ", 0, " + what + ")", x.line(order, 0, what), FewWays.BAD);
            }
        }
        FewWays six = Make.even(6, 1);
        CHECK.due("no 5", six.line(Make.order(0, 1, 2, 3, 4, 4), 0, 0), FewWays.BAD);
        CHECK.due("a 6", six.line(Make.order(0, 1, 2, 3, 4, 6), 0, 0), FewWays.BAD);
        CHECK.due("seven", six.line(Make.order(0, 1, 2, 3, 4, 5, 6), 0, 0), FewWays.BAD);
        FewWays two = new FewWays();
        CHECK.due("three of two", two.line(Make.order(0, 1, 2), 0, 0), FewWays.BAD);
    }

    private static void wrongParts() {
        FewWays x = Make.table(3, 3, 4, 5);
        String before = Make.all(x);
        int order = Make.order(0, 1, 2);
        int[] wrongPoints = {Integer.MIN_VALUE, -1, 3, 5, 6, Integer.MAX_VALUE};
        for (int i : wrongPoints) {
            CHECK.due("line(order, " + i + ", 0)", x.line(order, i, 0), FewWays.BAD);
            CHECK.due("line(order, " + i + ", 1)", x.line(order, i, 1), 2);
            CHECK.due("line(order, " + i + ", 2)", x.line(order, i, 2), 1);
        }
        int[] wrongWhats = {Integer.MIN_VALUE, -1, 3, 4, Integer.MAX_VALUE};
        for (int what : wrongWhats) {
            CHECK.due("line(order, 0, " + what + ")", x.line(order, 0, what), FewWays.BAD);
            CHECK.due("best(" + what + ")", x.best(what), FewWays.BAD);
        }
        CHECK.holds("a line changes nothing", before.equals(Make.all(x)));
    }
}
