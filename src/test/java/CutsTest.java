/** Promises 10 to 12: add, peel, left. */
public final class CutsTest {
    private static final Check CHECK = new Check("CutsTest");

    public static void main(String[] args) {
        added();
        notAdded();
        wrongCuts();
        peeledTriangles();
        peeledEdges();
        peeledRoundTrip();
        notOfCuts();
        lawless();
        wrongPairsLeft();
        CHECK.end();
    }

    private static void added() {
        FewWays x = Make.even(4, 2);
        CHECK.due("add(6, 5)", x.add(6, 5), 0);
        CHECK.holds("1 and 2 are cut off from 0 and 3", Make.all(x).equals("4 0 7 7 2 7 0 2 7 7 2 0 7 2 7 7 0"));
        CHECK.due("add(6, 0)", x.add(6, 0), 0);
        CHECK.due("add(6, -7)", x.add(6, -7), 0);
        CHECK.holds("and on 0", Make.all(x).equals("4 0 0 0 2 0 0 2 0 0 2 0 0 2 0 0 0"));
        CHECK.due("add(14, 28)", x.add(14, 28), 0);
        CHECK.holds("0 is cut off", Make.all(x).equals("4 0 28 28 30 28 0 2 0 28 2 0 0 30 0 0 0"));
        FewWays six = Make.even(6, 0);
        CHECK.due("add(62, 30)", six.add(62, 30), 0);
        CHECK.due("at(0, 5)", six.at(0, 5), 30);
        CHECK.due("at(4, 5)", six.at(4, 5), 0);
        CHECK.due("add(62, -30)", six.add(62, -30), 0);
        CHECK.due("at(0, 5)", six.at(0, 5), 0);
    }

    private static void notAdded() {
        FewWays x = Make.table(3, 1, 5, 30);
        String before = Make.all(x);
        CHECK.due("add(2, 1): 1, 2 would be 31", x.add(2, 1), FewWays.NO);
        CHECK.due("add(2, -2): 0, 1 would be -1", x.add(2, -2), FewWays.NO);
        CHECK.due("add(4, 30)", x.add(4, 30), FewWays.NO);
        CHECK.due("add(6, -30)", x.add(6, -30), FewWays.NO);
        CHECK.holds("what is not added changes nothing", before.equals(Make.all(x)));
        CHECK.due("add(2, -1)", x.add(2, -1), 0);
        CHECK.due("add(6, 25)", x.add(6, 25), 0);
        CHECK.due("at(0, 2)", x.at(0, 2), 30);
    }

    private static void wrongCuts() {
        FewWays x = Make.table(3, 3, 4, 5);
        String before = Make.all(x);
        int[] wrong = {Integer.MIN_VALUE, -8, -2, -1, 0, 1, 3, 5, 7, 8, 10, 14, 64, 1 << 30, Integer.MAX_VALUE};
        for (int cut : wrong) {
            CHECK.due("add(" + cut + ", 1)", x.add(cut, 1), FewWays.BAD);
            CHECK.due("add(" + cut + ", 0)", x.add(cut, 0), FewWays.BAD);
            CHECK.due("add(" + cut + ", 99)", x.add(cut, 99), FewWays.BAD);
            CHECK.due("peel(" + cut + ")", x.peel(cut), FewWays.BAD);
        }
        int[] wrongTimes = {Integer.MIN_VALUE, -31, 31, Integer.MAX_VALUE};
        for (int w : wrongTimes) {
            CHECK.due("add(2, " + w + ")", x.add(2, w), FewWays.BAD);
        }
        CHECK.holds("a wrong cut changes nothing", before.equals(Make.all(x)));
    }

    private static void peel(String table, FewWays x, int... due) {
        for (int cut = 2; cut < 2 * due.length + 2; cut += 2) {
            CHECK.due(table + ": peel(" + cut + ")", x.peel(cut), due[cut / 2 - 1]);
        }
    }

    private static void leftIs(String table, FewWays x, int factor) {
        for (int i = 0; i < x.count(); i++) {
            for (int j = 0; j < x.count(); j++) {
                CHECK.due(table + ": left(" + i + ", " + j + ")", x.left(i, j), factor * x.at(i, j));
            }
        }
    }

    private static void peeledTriangles() {
        FewWays x = Make.table(3, 3, 4, 5);
        String before = Make.all(x);
        peel("3 4 5", x, 4, 6, 2);
        leftIs("3 4 5", x, 0);
        CHECK.holds("the table stays", before.equals(Make.all(x)));
        peel("all 1", Make.even(3, 1), 1, 1, 1);
        leftIs("all 1", Make.even(3, 1), 0);
        peel("1 2 1", Make.table(3, 1, 2, 1), 0, 2, 2);
        x.set(0, 1, 5);
        peel("5 4 5", x, 6, 4, 4);
    }

    private static void peeledEdges() {
        FewWays two = Make.even(2, 30);
        peel("two points at 30", two, 60);
        leftIs("two points at 30", two, 0);
        two.set(0, 1, 0);
        peel("two points in one", two, 0);
        FewWays none = Make.even(6, 0);
        for (int cut = 2; cut < 64; cut += 2) {
            CHECK.due("all 0: peel(" + cut + ")", none.peel(cut), 0);
        }
        leftIs("all 0", none, 0);
        FewWays far = Make.even(6, 0);
        far.add(62, 30);
        CHECK.due("0 cut off 30 times: peel(62)", far.peel(62), 60);
        leftIs("0 cut off 30 times", far, 0);
        far.table(6);
        CHECK.due("all 1: peel(32)", far.peel(32), 1);
        CHECK.due("all 1: peel(62)", far.peel(62), 1);
        CHECK.due("all 1: peel(6)", far.peel(6), 0);
        leftIs("all 1", far, 0);
        far.table(2);
        CHECK.due("two points: peel(4)", far.peel(4), FewWays.BAD);
    }

    /** A tree's cuts come off as they were put on. */
    private static void peeledRoundTrip() {
        FewWays x = Make.even(5, 0);
        x.add(16, 1);
        x.add(24, 5);
        x.add(28, 4);
        x.add(30, 3);
        peel("a line", x, 0, 0, 0, 0, 0, 0, 0, 2, 0, 0, 0, 10, 0, 8, 6);
        leftIs("a line", x, 0);
    }

    private static void notOfCuts() {
        FewWays x = Make.table(5, 1, 1, 2, 2, 1, 1, 2, 1, 1, 2);
        peel("two points by three", x, 0, 0, 0, 0, 0, 0, 0, 0, 0, 0, 0, 0, 0, 0, 0);
        leftIs("two points by three", x, 2);
        x.add(30, 3);
        CHECK.due("0 cut off: peel(30)", x.peel(30), 6);
        CHECK.due("0 cut off: left(0, 1)", x.left(0, 1), 2);
        CHECK.due("0 cut off: left(3, 4)", x.left(3, 4), 4);
    }

    private static void lawless() {
        FewWays x = Make.table(3, 1, 3, 1);
        peel("1 3 1", x, 0, 0, 0);
        leftIs("1 3 1", x, 2);
        x.set(0, 2, 2);
        peel("1 2 1", x, 0, 2, 2);
        leftIs("1 2 1", x, 0);
        FewWays six = Make.even(6, 30);
        six.set(2, 4, 0);
        six.set(2, 5, 29);
        CHECK.due("one way too far: peel(2)", six.peel(2), 0);
        leftIs("one way too far", six, 2);
    }

    private static void wrongPairsLeft() {
        FewWays x = Make.table(3, 3, 4, 5);
        int[] wrong = {Integer.MIN_VALUE, -1, 3, 5, 6, Integer.MAX_VALUE};
        for (int none : wrong) {
            CHECK.due("left(0, " + none + ")", x.left(0, none), FewWays.BAD);
            CHECK.due("left(" + none + ", 0)", x.left(none, 0), FewWays.BAD);
            CHECK.due("left(" + none + ", " + none + ")", x.left(none, none), FewWays.BAD);
        }
    }
}
