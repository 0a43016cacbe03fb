/** The boundary cases of promises 7 to 9: flat, ways, bulk. */
public final class FlatBoundsTest {
    private static final Check CHECK = new Check("FlatBoundsTest");
    private static final long BAD = -2000000000000000000L;

    public static void main(String[] args) {
        flatAtNothing();
        flatJustBelow();
        flatOneSetBelow();
        flatPointsGone();
        waysNone();
        waysMost();
        waysOfOneSet();
        waysOfBelow();
        waysPointsGone();
        bulkSizes();
        bulkNoSize();
        bulkAboutNothing();
        bulkGreatest();
        bulkFirstPoints();
        nothingChanges();
        CHECK.end(7, 8, 9);
    }

    private static void flat(String table, FewWays x, int due) {
        CHECK.due("flat() of " + table, x.flat(), due);
    }

    private static void ways(String table, FewWays x, int due) {
        CHECK.due("ways() of " + table, x.ways(), due);
    }

    private static void flatAtNothing() {
        CHECK.sentence(7, "is below 0");
        for (int n = 2; n <= 6; n++) {
            flat(n + " in one", Make.even(n, 0), 1);
            flat(n + ", all 30", Make.even(n, 30), 1);
        }
        flat("1 2 1", Make.table(3, 1, 2, 1), 1);
        flat("0 30 30", Make.table(3, 0, 30, 30), 1);
        flat("3 by 4", Make.table(4, 3, 5, 4, 4, 5, 3), 1);
        flat("six on a line", Make.onLine(0, 30, 7, 7, 1, 29), 1);
    }

    private static void flatJustBelow() {
        CHECK.sentence(7, "no determinant of rows and columns of like numbers (any set of them) is below 0");
        flat("0 0 1, whose determinant is -1", Make.table(3, 0, 0, 1), 0);
        flat("0 1 0", Make.table(3, 0, 1, 0), 0);
        flat("1 0 0", Make.table(3, 1, 0, 0), 0);
        flat("1 3 1", Make.table(3, 1, 3, 1), 0);
        flat("15 30 14", Make.table(3, 15, 30, 14), 0);
        flat("15 30 15", Make.table(3, 15, 30, 15), 1);
    }

    /** Points at 0 add rows of 0, so that only one set is below 0, if any: that of the last points. */
    private static void flatOneSetBelow() {
        CHECK.sentence(7, "(any set of them)");
        flat("the last 2 at 14 from 0, 30 apart", about(2, 14, 30), 0);
        flat("the last 2 at 15 from 0, 30 apart", about(2, 15, 30), 1);
        flat("the last 3 at 17 from 0, 30 apart", about(3, 17, 30), 0);
        flat("the last 3 at 18 from 0, 30 apart", about(3, 18, 30), 1);
        flat("the last 4 at 18 from 0, 30 apart", about(4, 18, 30), 0);
        flat("the last 4 at 19 from 0, 30 apart", about(4, 19, 30), 1);
        flat("the last 5 at 18 from 0, 29 apart", about(5, 18, 29), 0);
        flat("the last 5 at 19 from 0, 30 apart", about(5, 19, 30), 1);
    }

    /** The last so many points at a distance from all before, which are in one, and apart from one another. */
    private static FewWays about(int last, int distance, int apart) {
        FewWays x = Make.even(6, 0);
        for (int j = 6 - last; j < 6; j++) {
            for (int i = 0; i < j; i++) {
                x.set(i, j, i < 6 - last ? distance : apart);
            }
        }
        return x;
    }

    private static void flatPointsGone() {
        CHECK.sentence(7, "(i, j from 1 on)");
        FewWays x = about(2, 1, 3);
        flat("six", x, 0);
        x.table(4);
        flat("four anew", x, 1);
        x.table(2);
        flat("two anew", x, 1);
    }

    private static void waysNone() {
        CHECK.sentence(8, "the most rows of such a one that is not 0");
        for (int n = 2; n <= 6; n++) {
            ways(n + " in one", Make.even(n, 0), 0);
        }
    }

    private static void waysMost() {
        CHECK.sentence(8, "WAYS are the most rows");
        for (int n = 2; n <= 6; n++) {
            ways(n + ", all 1", Make.even(n, 1), n - 1);
            ways(n + ", all 30", Make.even(n, 30), n - 1);
        }
        ways("five on a line", Make.onLine(0, 1, 2, 3, 4), 1);
        ways("3 by 4", Make.table(4, 3, 5, 4, 4, 5, 3), 2);
    }

    /** All sets with a point that is at 0 have the determinant 0; the others hold the last points. */
    private static void waysOfOneSet() {
        CHECK.sentence(8, "(any set of them)");
        for (int last = 1; last <= 5; last++) {
            ways("the last " + last + " off 0, far apart", about(last, 30, 30), last);
            ways("the last " + last + " off 0, in one", about(last, 30, 0), 1);
        }
    }

    private static void waysOfBelow() {
        CHECK.sentence(8, "that is not 0");
        ways("0 0 1, whose determinant is -1", Make.table(3, 0, 0, 1), 2);
        ways("1 1 3", Make.table(3, 1, 1, 3), 2);
        ways("1 1 2, whose determinant is 0", Make.table(3, 1, 1, 2), 1);
        ways("the last 5 too near to 0", about(5, 18, 29), 5);
        ways("the last 2 too near to 0", about(2, 1, 3), 2);
    }

    private static void waysPointsGone() {
        CHECK.sentence(8, "(i, j from 1 on)");
        FewWays x = Make.even(6, 30);
        ways("six", x, 5);
        x.table(3);
        ways("three anew", x, 2);
        x.table(2);
        ways("two anew", x, 1);
    }

    private static void bulkSizes() {
        CHECK.sentence(9, "the first k POINTS (2 to n)");
        long[] all1 = {2, 3, 4, 5, 6};
        for (int n = 2; n <= 6; n++) {
            FewWays x = Make.even(n, 1);
            for (int k = 2; k <= n; k++) {
                CHECK.due("bulk(" + k + ") of " + n, x.bulk(k), all1[k - 2]);
            }
            CHECK.due("bulk(1) of " + n, x.bulk(1), BAD);
            CHECK.due("bulk(" + (n + 1) + ") of " + n, x.bulk(n + 1), BAD);
        }
    }

    private static void bulkNoSize() {
        CHECK.sentence(9, "BAD answers -2000000000000000000.");
        for (int n = 2; n <= 6; n++) {
            FewWays x = Make.busy(6);
            x.table(n);
            for (int k : Edges.beyond(2, n)) {
                CHECK.due("bulk(" + k + ") of " + n, x.bulk(k), BAD);
            }
            CHECK.due("bulk(0) of " + n, x.bulk(0), BAD);
            CHECK.due("bulk(" + (n + 32) + ") of " + n, x.bulk(n + 32), BAD);
        }
    }

    private static void bulkAboutNothing() {
        CHECK.sentence(9, "THE BULK is the determinant of all.");
        CHECK.due("bulk(2) of 0", Make.even(2, 0).bulk(2), 0);
        CHECK.due("bulk(2) of 1", Make.even(2, 1).bulk(2), 2);
        CHECK.due("bulk(3) of 0 0 1", Make.table(3, 0, 0, 1).bulk(3), -1);
        CHECK.due("bulk(3) of 1 2 1", Make.table(3, 1, 2, 1).bulk(3), 0);
        CHECK.due("bulk(3) of 1 3 1", Make.table(3, 1, 3, 1).bulk(3), -45);
        CHECK.due("bulk(6) of six in one", Make.even(6, 0).bulk(6), 0);
    }

    /** The greatest and the least that distances of 0 and 30 make, far beyond what an int holds. */
    private static void bulkGreatest() {
        CHECK.sentence(9, "the squares of DISTANCES 0, i and 0, j together less that of i, j");
        CHECK.due("bulk(2) of 30", Make.even(2, 30).bulk(2), 1800);
        CHECK.due("bulk(3) of 30 30 30", Make.even(3, 30).bulk(3), 2430000);
        CHECK.due("bulk(3) of 30 0 0", Make.table(3, 30, 0, 0).bulk(3), -810000);
        CHECK.due("bulk(4) of all 30", Make.even(4, 30).bulk(4), 2916000000L);
        CHECK.due("the least bulk(4)", Make.table(4, 0, 0, 30, 30, 0, 0).bulk(4), -2916000000L);
        FewWays five = Make.table(5, 0, 0, 30, 30, 0, 30, 30, 30, 0, 0);
        CHECK.due("bulk(5) of all 30", Make.even(5, 30).bulk(5), 3280500000000L);
        CHECK.due("another bulk(5) as great", five.bulk(5), 3280500000000L);
        CHECK.due("the least bulk(5)", Make.table(5, 0, 0, 30, 0, 30, 30, 30, 0, 0, 0).bulk(5), -4592700000000L);
        CHECK.due("bulk(6) of all 30", Make.even(6, 30).bulk(6), 3542940000000000L);
        FewWays most = Make.table(6, 0, 0, 0, 0, 30, 30, 30, 0, 30, 0, 30, 30, 0, 0, 0);
        CHECK.due("the greatest bulk(6)", most.bulk(6), 7085880000000000L);
        FewWays least = Make.table(6, 30, 0, 0, 0, 0, 30, 0, 0, 30, 30, 30, 30, 0, 0, 0);
        CHECK.due("the least bulk(6)", least.bulk(6), -7085880000000000L);
    }

    private static void bulkFirstPoints() {
        CHECK.sentence(9, "of the first k POINTS");
        FewWays x = about(1, 30, 0);
        CHECK.due("bulk(2)", x.bulk(2), 0);
        CHECK.due("bulk(6)", x.bulk(6), 0);
        FewWays solid = Make.table(6, 3, 5, 4, 5, 4, 3, 30, 0, 0, 7, 1, 2, 3, 4, 30);
        CHECK.due("bulk(2)", solid.bulk(2), 18);
        CHECK.due("bulk(3)", solid.bulk(3), 576);
        CHECK.due("bulk(4)", solid.bulk(4), 8910);
        CHECK.due("bulk(5)", solid.bulk(5), Model.of(solid).bulk(5));
        CHECK.due("bulk(6)", solid.bulk(6), Model.of(solid).bulk(6));
    }

    private static void nothingChanges() {
        FewWays x = Make.busy(5);
        String before = Make.state(x);
        CHECK.sentence(9, "nothing changes then");
        for (int k : Edges.beyond(2, 5)) {
            x.bulk(k);
        }
        x.bulk(2);
        x.bulk(5);
        CHECK.same("bulk", before, x);
        CHECK.sentence(7, "1: FLAT; 0.");
        x.flat();
        CHECK.same("flat", before, x);
        CHECK.sentence(8, "WAYS.");
        x.ways();
        CHECK.same("ways", before, x);
    }
}
