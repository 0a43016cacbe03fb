/** Promises 1 to 4 and 19: a new object, table, set, at, count. */
public final class TableTest {
    private static final Check CHECK = new Check("TableTest");

    public static void main(String[] args) {
        newObject();
        tables();
        distances();
        wrongTables();
        wrongPairs();
        wrongDistances();
        objectsStandAlone();
        CHECK.end();
    }

    private static void newObject() {
        FewWays x = new FewWays();
        CHECK.due("count() of a new object", x.count(), 2);
        CHECK.due("at(0, 0)", x.at(0, 0), 0);
        CHECK.due("at(1, 1)", x.at(1, 1), 0);
        CHECK.due("at(0, 1)", x.at(0, 1), 1);
        CHECK.due("at(1, 0)", x.at(1, 0), 1);
        for (int i = 0; i < 10; i++) {
            CHECK.due("number(" + i + ", 0) of a new object", x.number(i, 0), 0);
        }
        CHECK.due("BAD", FewWays.BAD, -1);
        CHECK.due("NO", FewWays.NO, -2);
        CHECK.due("NONE", FewWays.NONE, -4);
    }

    private static void tables() {
        FewWays x = new FewWays();
        for (int turn = 0; turn < 3; turn++) {
            for (int n = 2; n <= 6; n++) {
                CHECK.due("table(" + n + ")", x.table(n), n);
                CHECK.due("count()", x.count(), n);
                for (int i = 0; i < n; i++) {
                    for (int j = 0; j < n; j++) {
                        CHECK.due("at(" + i + ", " + j + ") of " + n, x.at(i, j), i == j ? 0 : 1);
                    }
                }
                x.set(0, n - 1, 30);
                x.set(1, 0, 7);
            }
        }
    }

    private static void distances() {
        FewWays x = new FewWays();
        x.table(6);
        for (int i = 0; i < 6; i++) {
            for (int j = i + 1; j < 6; j++) {
                CHECK.due("set of a new distance", x.set(j, i, i * 5 + j), 1);
            }
        }
        for (int i = 0; i < 6; i++) {
            for (int j = i + 1; j < 6; j++) {
                CHECK.due("at(" + i + ", " + j + ")", x.at(i, j), i * 5 + j);
                CHECK.due("at(" + j + ", " + i + ")", x.at(j, i), i * 5 + j);
            }
            CHECK.due("at(" + i + ", " + i + ")", x.at(i, i), 0);
        }
        CHECK.due("set(4, 5, 0)", x.set(4, 5, 0), 25);
        CHECK.due("set(4, 5, 30)", x.set(4, 5, 30), 0);
        CHECK.due("set(5, 4, 29)", x.set(5, 4, 29), 30);
        CHECK.due("at(4, 5)", x.at(4, 5), 29);
        CHECK.due("number(9, 0) beside a table", x.number(9, 0), 0);
        x.number(9, 17);
        x.table(3);
        CHECK.due("number(9, 0): a new table leaves numbers", x.number(9, 0), 17);
    }

    private static void wrongTables() {
        FewWays x = Make.onLine(0, 3, 7);
        String before = Make.all(x);
        int[] wrong = {Integer.MIN_VALUE, -3, -1, 0, 1, 7, 8, 64, Integer.MAX_VALUE};
        for (int n : wrong) {
            CHECK.due("table(" + n + ")", x.table(n), FewWays.BAD);
        }
        CHECK.holds("a wrong table changes nothing", before.equals(Make.all(x)));
    }

    private static void wrongPairs() {
        FewWays x = Make.onLine(0, 3, 7);
        String before = Make.all(x);
        int[] wrong = {Integer.MIN_VALUE, -6, -1, 3, 4, 5, 6, 36, Integer.MAX_VALUE};
        for (int none : wrong) {
            for (int i = 0; i < 3; i++) {
                CHECK.due("set(" + i + ", " + none + ", 5)", x.set(i, none, 5), FewWays.BAD);
                CHECK.due("set(" + none + ", " + i + ", 5)", x.set(none, i, 5), FewWays.BAD);
                CHECK.due("at(" + i + ", " + none + ")", x.at(i, none), FewWays.BAD);
                CHECK.due("at(" + none + ", " + i + ")", x.at(none, i), FewWays.BAD);
            }
            CHECK.due("at(" + none + ", " + none + ")", x.at(none, none), FewWays.BAD);
        }
        for (int i = 0; i < 3; i++) {
            CHECK.due("set(" + i + ", " + i + ", 0)", x.set(i, i, 0), FewWays.BAD);
            CHECK.due("set(" + i + ", " + i + ", 1)", x.set(i, i, 1), FewWays.BAD);
        }
        CHECK.holds("a wrong pair changes nothing", before.equals(Make.all(x)));
    }

    private static void wrongDistances() {
        FewWays x = Make.onLine(0, 3, 7);
        String before = Make.all(x);
        int[] wrong = {Integer.MIN_VALUE, -30, -1, 31, 32, Integer.MAX_VALUE};
        for (int d : wrong) {
            CHECK.due("set(0, 1, " + d + ")", x.set(0, 1, d), FewWays.BAD);
        }
        CHECK.holds("a wrong distance changes nothing", before.equals(Make.all(x)));
    }

    private static void objectsStandAlone() {
        FewWays one = new FewWays();
        FewWays other = new FewWays();
        one.table(4);
        one.set(0, 1, 9);
        one.number(0, 5);
        CHECK.due("count() of another object", other.count(), 2);
        CHECK.due("at(0, 1) of another object", other.at(0, 1), 1);
        CHECK.due("number(0, 0) of another object", other.number(0, 0), 0);
    }
}
