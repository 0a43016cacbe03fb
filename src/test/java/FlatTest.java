/** Promises 7 to 9: flat, ways, bulk. */
public final class FlatTest {
    private static final Check CHECK = new Check("FlatTest");

    public static void main(String[] args) {
        fewestPoints();
        triangles();
        fourPoints();
        greatest();
        notFlatInsideOnly();
        wrongBulks();
        CHECK.end();
    }

    private static void judge(String table, FewWays x, int flat, int ways) {
        CHECK.due(table + ": flat()", x.flat(), flat);
        CHECK.due(table + ": ways()", x.ways(), ways);
    }

    private static void bulks(String table, FewWays x, long... due) {
        for (int k = 2; k < due.length + 2; k++) {
            CHECK.due(table + ": bulk(" + k + ")", x.bulk(k), due[k - 2]);
        }
    }

    private static void fewestPoints() {
        FewWays x = new FewWays();
        judge("two points", x, 1, 1);
        bulks("two points", x, 2);
        x.set(0, 1, 30);
        judge("two points far off", x, 1, 1);
        bulks("two points far off", x, 1800);
        x.set(0, 1, 0);
        judge("two points in one", x, 1, 0);
        bulks("two points in one", x, 0);
        FewWays six = Make.even(6, 0);
        judge("six points in one", six, 1, 0);
        bulks("six points in one", six, 0, 0, 0, 0, 0);
    }

    private static void triangles() {
        FewWays right = Make.table(3, 3, 4, 5);
        judge("3 4 5", right, 1, 2);
        bulks("3 4 5", right, 18, 576);
        FewWays thin = Make.table(3, 1, 2, 1);
        judge("1 2 1", thin, 1, 1);
        bulks("1 2 1", thin, 2, 0);
        FewWays none = Make.table(3, 1, 1, 3);
        judge("1 1 3", none, 0, 2);
        bulks("1 1 3", none, 2, -45);
        FewWays odd = Make.table(3, 0, 0, 1);
        judge("0 0 1", odd, 0, 2);
        bulks("0 0 1", odd, 0, -1);
    }

    private static void fourPoints() {
        FewWays flat = Make.table(4, 3, 5, 4, 4, 5, 3);
        judge("3 by 4", flat, 1, 2);
        bulks("3 by 4", flat, 18, 576, 0);
        FewWays solid = Make.table(4, 3, 5, 4, 5, 4, 3);
        judge("a solid", solid, 1, 3);
        bulks("a solid", solid, 18, 576, 8910);
        FewWays even = Make.even(4, 1);
        judge("all 1", even, 1, 3);
        bulks("all 1", even, 2, 3, 4);
    }

    private static void greatest() {
        FewWays even = Make.even(6, 30);
        judge("six, all 30", even, 1, 5);
        bulks("six, all 30", even, 1800, 2430000, 2916000000L, 3280500000000L, 3542940000000000L);
        FewWays inner = Make.even(6, 30);
        for (int i = 1; i < 6; i++) {
            inner.set(0, i, 0);
        }
        judge("0 at no distance", inner, 0, 5);
        bulks("0 at no distance", inner, 0, -810000, -1458000000L, -1968300000000L, -2361960000000000L);
        FewWays far = Make.even(6, 0);
        for (int i = 1; i < 6; i++) {
            far.set(0, i, 30);
        }
        judge("0 far off", far, 1, 1);
        bulks("0 far off", far, 1800, 0, 0, 0, 0);
    }

    /** The determinants of the first rows are not below 0 here; one of others is. */
    private static void notFlatInsideOnly() {
        FewWays x = Make.table(4, 0, 1, 1, 1, 1, 3);
        judge("1 in 0, 2 and 3 too far off", x, 0, 2);
        bulks("1 in 0, 2 and 3 too far off", x, 0, 0, 0);
    }

    private static void wrongBulks() {
        FewWays x = Make.table(4, 3, 5, 4, 5, 4, 3);
        String before = Make.all(x);
        int[] wrong = {Integer.MIN_VALUE, -1, 0, 1, 5, 6, 7, 33, Integer.MAX_VALUE};
        for (int k : wrong) {
            CHECK.due("bulk(" + k + ")", x.bulk(k), -2000000000000000000L);
        }
        CHECK.holds("a wrong bulk changes nothing", before.equals(Make.all(x)));
        bulks("as before", x, 18, 576, 8910);
    }
}
