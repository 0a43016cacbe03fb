/** The boundary cases of promises 13 and 14: line, best. */
public final class LineBoundsTest {
    private static final Check CHECK = new Check("LineBoundsTest");
    private static final int BAD = -1;
    /** So many on one object are well below what it is used for. */
    private static final int CALLS = 400;

    public static void main(String[] args) {
        lineOrders();
        lineNoOrder();
        lineSmallestAndGreatestOrder();
        lineFirstPlace();
        lineGreatestPlace();
        lineNotBelow();
        linePoints();
        lineNotLookedAt();
        lineWhats();
        stretchNothing();
        stretchOverSome();
        stretchMostAndLeast();
        stretchLowestTerms();
        bestWhats();
        bestOfTwo();
        bestOfNothing();
        bestLowerPoints();
        bestLeast();
        bestMost();
        lineNothingChanges();
        bestNothingChanges();
        CHECK.end(13, 14);
    }

    private static boolean isOrder(int told, int n) {
        int seen = 0;
        for (int turn = 0; turn < n; turn++) {
            seen |= 1 << (told >> 3 * turn & 7);
        }
        return told >> 3 * n == 0 && seen == (1 << n) - 1;
    }

    /** Every number up to three bits beyond the points. */
    private static void lineOrders() {
        CHECK.sentence(13, "told by three bits a POINT, the first one lowest");
        for (int n = 2; n <= 6; n++) {
            FewWays x = null;
            int orders = 0;
            int beyond = n < 6 ? 3 * n + 3 : 3 * n + 1;
            for (int told = 0; told < 1 << beyond; told++) {
                if (told % CALLS == 0) {
                    x = Make.even(n, 1);
                }
                int place = x.line(told, 0, 0);
                orders += place == BAD ? 0 : 1;
                if (place == BAD == isOrder(told, n)) {
                    CHECK.due("line(" + told + ", 0, 0) of " + n, place, isOrder(told, n) ? 0 : BAD);
                }
            }
            int[] due = {2, 6, 24, 120, 720};
            CHECK.due("orders of " + n, orders, due[n - 2]);
        }
    }

    private static void lineNoOrder() {
        CHECK.sentence(13, "BAD: no order.");
        for (int n = 2; n <= 6; n++) {
            FewWays x = Make.busy(n);
            int order = new Draw(n).order(n);
            int first = order & 7;
            int[] none = {
                -1, Integer.MIN_VALUE, Integer.MAX_VALUE, order | Integer.MIN_VALUE, -order, ~order,
                order | 1 << 3 * n, order | 1 << 3 * n + 3, order | 1 << 30, order | 2 << 3 * n,
                order & ~7 | order >> 3 & 7, order & ~7 | n, order & ~7 | 7,
                order & (1 << 3 * (n - 1)) - 1 | first << 3 * (n - 1)
            };
            for (int told : none) {
                for (int what = 0; what <= 2; what++) {
                    CHECK.due("line(" + told + ", 0, " + what + ") of " + n, x.line(told, 0, what), BAD);
                }
            }
            CHECK.holds("line(" + order + ", 0, 0) is one", x.line(order, 0, 0) >= 0);
        }
    }

    private static void lineSmallestAndGreatestOrder() {
        CHECK.sentence(13, "three bits a POINT, the first one lowest");
        int[] forth = {8, 136, 1672, 18056, 181896};
        int[] back = {1, 10, 83, 668, 5349};
        for (int n = 2; n <= 6; n++) {
            FewWays x = Make.even(n, 1);
            for (int i = 0; i < n; i++) {
                CHECK.due("the place of " + i + " in order", x.line(forth[n - 2], i, 0), i);
                CHECK.due("the place of " + i + " backwards", x.line(back[n - 2], i, 0), n - 1 - i);
            }
            CHECK.due("line(" + (forth[n - 2] + 1) + ", 0, 0) of " + n, x.line(forth[n - 2] + 1, 0, 0), BAD);
            CHECK.due("line(" + (back[n - 2] - 1) + ", 0, 0) of " + n, x.line(back[n - 2] - 1, 0, 0), BAD);
        }
    }

    private static void lineFirstPlace() {
        CHECK.sentence(13, "the first at 0");
        FewWays x = Make.even(6, 30);
        for (int first = 0; first < 6; first++) {
            int order = 0;
            for (int turn = 5; turn >= 0; turn--) {
                order = order * 8 + (first + turn) % 6;
            }
            CHECK.due("the place of " + first + " as first", x.line(order, first, 0), 0);
            CHECK.due("the place of the second", x.line(order, (first + 1) % 6, 0), 30);
        }
    }

    private static void lineGreatestPlace() {
        CHECK.sentence(13, "each next one at the least place, at which it is off each one ahead of it by DISTANCE at least");
        FewWays x = Make.even(6, 30);
        CHECK.due("the last of six, all 30", x.line(181896, 5, 0), 150);
        CHECK.due("the last but one", x.line(181896, 4, 0), 120);
        FewWays line = Make.onLine(0, 1, 2, 3, 4, 30);
        CHECK.due("the last of a line", line.line(181896, 5, 0), 30);
        CHECK.due("the last but one of a line", line.line(181896, 4, 0), 4);
        FewWays first = Make.table(3, 1, 30, 1);
        CHECK.due("held off by the first", first.line(136, 2, 0), 30);
        first.set(0, 2, 2);
        CHECK.due("held off by both", first.line(136, 2, 0), 2);
        first.set(0, 2, 1);
        CHECK.due("held off by the second", first.line(136, 2, 0), 2);
    }

    private static void lineNotBelow() {
        CHECK.sentence(13, "(and not below any of these)");
        FewWays x = Make.table(3, 30, 1, 0);
        CHECK.due("a place for 2 behind 1", x.line(136, 2, 0), 30);
        x.set(1, 2, 1);
        CHECK.due("a place for 2 after 1", x.line(136, 2, 0), 31);
        x.set(1, 2, 0);
        x.set(0, 2, 0);
        CHECK.due("a place for 2 with both at 0", x.line(136, 2, 0), 30);
        FewWays none = Make.even(6, 0);
        for (int i = 0; i < 6; i++) {
            CHECK.due("the place of " + i + " with all 0", none.line(181896, i, 0), 0);
        }
    }

    private static void linePoints() {
        CHECK.sentence(13, "the place of a POINT (i; what 0)");
        int[] forth = {8, 136, 1672, 18056, 181896};
        for (int n = 2; n <= 6; n++) {
            FewWays x = Make.even(6, 30);
            x.table(n);
            int order = forth[n - 2];
            CHECK.due("line(order, 0, 0) of " + n, x.line(order, 0, 0), 0);
            CHECK.due("line(order, " + (n - 1) + ", 0)", x.line(order, n - 1, 0), n - 1);
            CHECK.due("line(order, " + n + ", 0)", x.line(order, n, 0), BAD);
            CHECK.due("line(order, -1, 0)", x.line(order, -1, 0), BAD);
            for (int none : Edges.beyond(0, n - 1)) {
                CHECK.due("line(order, " + none + ", 0) of " + n, x.line(order, none, 0), BAD);
            }
        }
    }

    private static void lineNotLookedAt() {
        CHECK.sentence(13, "i is not looked at for 1, 2");
        FewWays x = Make.table(3, 3, 4, 5);
        int order = Make.order(1, 0, 2);
        for (int i = 0; i < 3; i++) {
            CHECK.due("line(order, " + i + ", 1)", x.line(order, i, 1), 7);
            CHECK.due("line(order, " + i + ", 2)", x.line(order, i, 2), 5);
        }
        for (int none : Edges.beyond(0, 2)) {
            CHECK.due("line(order, " + none + ", 1)", x.line(order, none, 1), 7);
            CHECK.due("line(order, " + none + ", 2)", x.line(order, none, 2), 5);
            CHECK.due("line(0, " + none + ", 1)", x.line(0, none, 1), BAD);
            CHECK.due("line(0, " + none + ", 2)", x.line(0, none, 2), BAD);
        }
    }

    private static void lineWhats() {
        CHECK.sentence(13, "STRETCH above (1), below (2");
        FewWays x = Make.table(3, 3, 4, 5);
        int order = Make.order(1, 0, 2);
        CHECK.due("line(order, 2, 0)", x.line(order, 2, 0), 7);
        CHECK.due("line(order, 2, 1)", x.line(order, 2, 1), 7);
        CHECK.due("line(order, 2, 2)", x.line(order, 2, 2), 5);
        CHECK.due("line(order, 2, 3)", x.line(order, 2, 3), BAD);
        CHECK.due("line(order, 2, -1)", x.line(order, 2, -1), BAD);
        for (int what : Edges.beyond(0, 2)) {
            CHECK.due("line(order, 2, " + what + ")", x.line(order, 2, what), BAD);
            CHECK.due("line(order, 9, " + what + ")", x.line(order, 9, what), BAD);
            CHECK.due("line(0, 0, " + what + ")", x.line(0, 0, what), BAD);
        }
    }

    private static void stretchNothing() {
        CHECK.sentence(13, "where all are 0, 0 by 1");
        int[] forth = {8, 136, 1672, 18056, 181896};
        for (int n = 2; n <= 6; n++) {
            FewWays x = Make.even(n, 0);
            CHECK.due("above of " + n + " in one", x.line(forth[n - 2], 0, 1), 0);
            CHECK.due("below of " + n + " in one", x.line(forth[n - 2], 0, 2), 1);
            x.set(n - 2, n - 1, 1);
            CHECK.due("above with one 1", x.line(forth[n - 2], 0, 1), 1);
            CHECK.due("below with one 1", x.line(forth[n - 2], 0, 2), 1);
        }
    }

    /** Two at no distance may be far apart there: they do not count. */
    private static void stretchOverSome() {
        CHECK.sentence(13, "over two with a DISTANCE above 0");
        FewWays x = Make.table(3, 30, 0, 30);
        CHECK.due("the place of 2", x.line(136, 2, 0), 60);
        CHECK.due("above: 30 by 30 alone", x.line(136, 0, 1), 1);
        CHECK.due("below: 30 by 30 alone", x.line(136, 0, 2), 1);
        x.set(0, 2, 1);
        CHECK.due("above with a 1", x.line(136, 0, 1), 60);
        CHECK.due("below with a 1", x.line(136, 0, 2), 1);
    }

    private static void stretchMostAndLeast() {
        CHECK.sentence(13, "STRETCH: the greatest of (how far two are apart there, by their DISTANCE)");
        FewWays x = Make.even(6, 30);
        x.set(0, 5, 1);
        CHECK.due("the greatest above", x.line(181896, 0, 1), 150);
        CHECK.due("the least below", x.line(181896, 0, 2), 1);
        x.set(0, 5, 0);
        x.set(1, 5, 29);
        CHECK.due("120 by 29", x.line(181896, 0, 1), 120);
        CHECK.due("the below of it", x.line(181896, 0, 2), 29);
        FewWays two = Make.even(2, 30);
        CHECK.due("above of two", two.line(1, 0, 1), 1);
        CHECK.due("below of two", two.line(1, 0, 2), 1);
        FewWays near = Make.table(4, 29, 30, 1, 30, 1, 28);
        CHECK.due("above of several", near.line(1672, 0, 1), Model.of(near).line(1672, 0, 1));
        CHECK.due("below of several", near.line(1672, 0, 2), Model.of(near).line(1672, 0, 2));
    }

    private static void stretchLowestTerms() {
        CHECK.sentence(13, "in lowest terms");
        FewWays x = Make.even(6, 30);
        CHECK.due("150 by 30: above", x.line(181896, 0, 1), 5);
        CHECK.due("150 by 30: below", x.line(181896, 0, 2), 1);
        FewWays third = Make.table(3, 10, 15, 15);
        CHECK.due("25 by 15: above", third.line(136, 0, 1), 5);
        CHECK.due("25 by 15: below", third.line(136, 0, 2), 3);
        FewWays whole = Make.table(3, 14, 29, 29);
        CHECK.due("43 by 29: above", whole.line(136, 0, 1), 43);
        CHECK.due("43 by 29: below", whole.line(136, 0, 2), 29);
        FewWays sixth = Make.table(3, 12, 30, 30);
        CHECK.due("42 by 30: above", sixth.line(136, 0, 1), 7);
        CHECK.due("42 by 30: below", sixth.line(136, 0, 2), 5);
    }

    private static void bestWhats() {
        CHECK.sentence(14, "its order told so (what = 0), its STRETCH above (1), below (2). BAD.");
        FewWays x = Make.table(3, 6, 8, 10);
        CHECK.due("best(0)", x.best(0), Make.order(1, 0, 2));
        CHECK.due("best(1)", x.best(1), 7);
        CHECK.due("best(2)", x.best(2), 5);
        CHECK.due("best(3)", x.best(3), BAD);
        CHECK.due("best(-1)", x.best(-1), BAD);
        for (int what : Edges.beyond(0, 2)) {
            CHECK.due("best(" + what + ")", x.best(what), BAD);
        }
    }

    private static void bestOfTwo() {
        CHECK.sentence(14, "of several that whose POINTS are lower");
        for (int distance = 0; distance <= 30; distance++) {
            FewWays x = Make.even(2, distance);
            CHECK.due("best(0) of two at " + distance, x.best(0), 8);
            CHECK.due("best(1) of two at " + distance, x.best(1), distance == 0 ? 0 : 1);
            CHECK.due("best(2) of two at " + distance, x.best(2), 1);
        }
    }

    private static void bestOfNothing() {
        CHECK.sentence(14, "where all are 0, 0 by 1");
        int[] forth = {8, 136, 1672, 18056, 181896};
        for (int n = 2; n <= 6; n++) {
            FewWays x = Make.even(n, 0);
            CHECK.due("best(0) of " + n + " in one", x.best(0), forth[n - 2]);
            CHECK.due("best(1) of " + n + " in one", x.best(1), 0);
            CHECK.due("best(2) of " + n + " in one", x.best(2), 1);
        }
    }

    /** Not the order with the least number: that would be the one backwards. */
    private static void bestLowerPoints() {
        CHECK.sentence(14, "of several that whose POINTS are lower, from the first on");
        int[] forth = {8, 136, 1672, 18056, 181896};
        for (int n = 2; n <= 6; n++) {
            CHECK.due("best(0) of " + n + ", all 30", Make.even(n, 30).best(0), forth[n - 2]);
        }
        CHECK.due("a line or back", Make.onLine(3, 5, 0, 4).best(0), Make.order(1, 3, 0, 2));
        CHECK.due("back or a line", Make.onLine(3, 0, 5, 4).best(0), Make.order(1, 0, 3, 2));
        CHECK.due("two in one at the end", Make.table(3, 5, 5, 0).best(0), Make.order(0, 1, 2));
        CHECK.due("the last ones in one", Make.onLine(0, 9, 9, 9, 9, 9).best(0), Make.order(0, 1, 2, 3, 4, 5));
        CHECK.due("the last ones back", Make.onLine(0, 9, 8, 7, 6, 5).best(0), Make.order(0, 5, 4, 3, 2, 1));
    }

    private static void bestLeast() {
        CHECK.sentence(14, "of all orders that with least STRETCH");
        FewWays line = Make.onLine(30, 0, 29, 1, 28, 2);
        CHECK.due("best(0) of a line", line.best(0), Make.order(0, 2, 4, 5, 3, 1));
        CHECK.due("best(1) of a line", line.best(1), 1);
        CHECK.due("best(2) of a line", line.best(2), 1);
        FewWays last = Make.onLine(15, 30, 29, 28, 27, 0);
        CHECK.due("the order with 5 first is told backwards", last.best(0), Make.order(1, 2, 3, 4, 0, 5));
        FewWays near = Make.table(4, 29, 30, 28, 30, 29, 30);
        CHECK.due("best(0) of all nearly as far", near.best(0), Model.of(near).best(0));
        CHECK.due("best(1) of all nearly as far", near.best(1), Model.of(near).best(1));
        CHECK.due("best(2) of all nearly as far", near.best(2), Model.of(near).best(2));
    }

    private static void bestMost() {
        CHECK.sentence(14, "its STRETCH above (1), below (2)");
        for (int n = 2; n <= 6; n++) {
            FewWays x = Make.even(n, 30);
            CHECK.due("best(1) of " + n + ", all 30", x.best(1), n - 1);
            CHECK.due("best(2) of " + n + ", all 30", x.best(2), 1);
        }
    }

    private static void lineNothingChanges() {
        CHECK.sentence(13, "nothing changes then");
        FewWays x = Make.busy(6);
        String before = Make.state(x);
        for (int none : Edges.beyond(0, 5)) {
            x.line(none, 0, 0);
            x.line(181896, none, 0);
            x.line(181896, 0, none);
        }
        x.line(5349, 3, 0);
        x.line(5349, 3, 1);
        x.line(5349, 3, 2);
        CHECK.same("line", before, x);
    }

    private static void bestNothingChanges() {
        CHECK.sentence(14, "nothing changes then");
        FewWays x = Make.busy(6);
        String before = Make.state(x);
        for (int what : Edges.beyond(0, 2)) {
            x.best(what);
        }
        x.best(0);
        x.best(1);
        x.best(2);
        CHECK.same("best", before, x);
    }
}
