/** Promises 5 and 6: law, breaks. */
public final class LawsTest {
    private static final Check CHECK = new Check("LawsTest");

    public static void main(String[] args) {
        tablesThatKeepAll();
        detours();
        trees();
        nests();
        weights();
        wrongLaws();
        asIfNothing();
        CHECK.end();
    }

    private static void judge(String table, FewWays x, int law, int first, int many) {
        CHECK.due(table + ": law(" + law + ")", x.law(law), first);
        CHECK.due(table + ": breaks(" + law + ")", x.breaks(law), many);
    }

    private static void tablesThatKeepAll() {
        int[] evens = {0, 1, 30};
        for (int distance : evens) {
            for (int n = 2; n <= 6; n++) {
                FewWays x = Make.even(n, distance);
                for (int law = 0; law <= 3; law++) {
                    judge(n + " points, all " + distance, x, law, FewWays.NONE, 0);
                }
            }
        }
    }

    private static void detours() {
        judge("a way as long", Make.table(3, 1, 2, 1), 0, FewWays.NONE, 0);
        judge("by way of 1", Make.table(3, 1, 3, 1), 0, 10, 1);
        judge("by way of 2", Make.table(3, 3, 1, 1), 0, 17, 1);
        judge("by way of 0", Make.table(3, 1, 1, 3), 0, 66, 1);
        judge("by way of a point at no distance", Make.table(3, 0, 1, 0), 0, 10, 1);
        FewWays six = Make.even(6, 1);
        six.set(4, 5, 30);
        judge("by way of any of four", six, 0, 4 * 64 + 5, 4);
        FewWays last = Make.even(6, 2);
        for (int i = 0; i < 6; i++) {
            last.set(3, i, 1);
        }
        last.set(4, 5, 3);
        judge("the last case alone", last, 0, 4 * 64 + 3 * 8 + 5, 1);
        last.set(0, 1, 3);
        judge("0, 3, 1 as well", last, 0, 3 * 8 + 1, 2);
    }

    private static void trees() {
        judge("a line of places", Make.onLine(0, 3, 7, 12, 13, 30), 1, FewWays.NONE, 0);
        judge("the greatest alone: 0 1 and 2 3", Make.table(4, 2, 1, 1, 1, 1, 1), 1, 83, 1);
        judge("the greatest alone: 0 2 and 1 3", Make.table(4, 1, 2, 1, 1, 1, 1), 1, 83, 1);
        judge("the greatest alone: 0 3 and 1 2", Make.table(4, 1, 1, 1, 2, 1, 1), 1, 83, 1);
        judge("the least alone", Make.table(4, 1, 2, 2, 2, 2, 1), 1, FewWays.NONE, 0);
        judge("three points", Make.table(3, 1, 7, 30), 1, FewWays.NONE, 0);
        FewWays round = Make.even(6, 10);
        for (int i = 0; i < 6; i++) {
            round.set(i, (i + 2) % 6, 17);
            round.set(i, (i + 3) % 6, 20);
        }
        judge("six points in a ring", round, 1, 83, 15);
        FewWays tail = Make.even(6, 1);
        tail.set(4, 5, 2);
        judge("one greater distance", tail, 1, 64 + 4 * 8 + 5, 6);
    }

    private static void nests() {
        judge("0 1 greatest", Make.table(3, 2, 1, 1), 2, 10, 1);
        judge("0 2 greatest", Make.table(3, 1, 2, 1), 2, 10, 1);
        judge("1 2 greatest", Make.table(3, 1, 1, 2), 2, 10, 1);
        judge("0 1 least", Make.table(3, 1, 2, 2), 2, FewWays.NONE, 0);
        judge("0 2 least", Make.table(3, 2, 1, 2), 2, FewWays.NONE, 0);
        judge("1 2 least", Make.table(3, 2, 2, 1), 2, FewWays.NONE, 0);
        FewWays last = Make.even(6, 10);
        last.set(3, 4, 1);
        last.set(3, 5, 2);
        last.set(4, 5, 3);
        judge("the last case alone", last, 2, 3 * 64 + 4 * 8 + 5, 1);
        judge("six places on a line", Make.onLine(0, 1, 2, 3, 4, 5), 2, 10, 20);
    }

    private static void weights() {
        judge("two points", Make.even(2, 30), 3, FewWays.NONE, 0);
        judge("a way as long", Make.table(3, 2, 1, 1), 3, FewWays.NONE, 0);
        judge("1, 1 and -1", Make.table(3, 3, 1, 1), 3, 91, 1);
        judge("1, 2 and -2; 2, 1 and -2 as well", Make.table(3, 4, 1, 1), 3, 91, 3);
        judge("1, -1 and 1", Make.table(3, 1, 3, 1), 3, 3 * 25 + 5 + 3, 1);
        judge("-1, 1 and 1", Make.table(3, 1, 1, 3), 3, 25 + 3 * 5 + 3, 1);
        FewWays twoByThree = Make.table(5, 1, 1, 2, 2, 1, 1, 2, 1, 1, 2);
        judge("two points by three", twoByThree, 3, 1231, 11);
        judge("six places on a line", Make.onLine(0, 1, 2, 3, 4, 5), 3, FewWays.NONE, 0);
        FewWays parts = Make.even(6, 0);
        parts.set(0, 1, 30);
        parts.set(0, 2, 30);
        parts.set(1, 2, 30);
        int lastCase = ((((4 * 5 + 4) * 5 + 4) * 5 + 1) * 5) * 5;
        CHECK.holds("the last case is counted", parts.breaks(3) == Model.of(parts).breaks(3));
        CHECK.holds("the last case is one", Model.of(parts).isBroken(3, lastCase));
    }

    private static void wrongLaws() {
        FewWays x = Make.table(3, 4, 1, 1);
        String before = Make.all(x);
        int[] wrong = {Integer.MIN_VALUE, -4, -1, 4, 5, Integer.MAX_VALUE};
        for (int law : wrong) {
            CHECK.due("law(" + law + ")", x.law(law), FewWays.BAD);
            CHECK.due("breaks(" + law + ")", x.breaks(law), FewWays.BAD);
        }
        CHECK.holds("a wrong law changes nothing", before.equals(Make.all(x)));
    }

    /** What was judged before does not stay. */
    private static void asIfNothing() {
        FewWays x = Make.table(3, 3, 1, 1);
        judge("broken", x, 0, 17, 1);
        x.set(0, 1, 2);
        judge("mended", x, 0, FewWays.NONE, 0);
        x.set(0, 2, 4);
        judge("broken elsewhere", x, 0, 10, 1);
        x.table(2);
        judge("two points", x, 0, FewWays.NONE, 0);
    }
}
