/** The boundary cases of promises 1 to 4 and 19: a new object, table, set, at, count. */
public final class TableBoundsTest {
    private static final Check CHECK = new Check("TableBoundsTest");

    public static void main(String[] args) {
        newTwoPoints();
        newNoThirdPoint();
        newDistance();
        newItself();
        newNumbers();
        newBesideAnother();
        tableSizes();
        tableBeyond();
        tableAnew();
        tableItself();
        tableNothingChanges();
        setEnds();
        setBeyond();
        setItself();
        setPoints();
        setNoPoint();
        setWhatItWas();
        setBothWaysRound();
        setNothingChanges();
        atEnds();
        atItself();
        atPoints();
        atNoPoint();
        atNothingChanges();
        countAll();
        countAfterRefused();
        CHECK.end(1, 2, 3, 4, 19);
    }

    private static void newTwoPoints() {
        CHECK.sentence(1, "2 at first");
        FewWays x = new FewWays();
        CHECK.due("count()", x.count(), 2);
        CHECK.due("at(1, 1)", x.at(1, 1), 0);
        CHECK.due("bulk(2)", x.bulk(2), 2);
        CHECK.due("line(8, 1, 0)", x.line(8, 1, 0), 1);
    }

    private static void newNoThirdPoint() {
        CHECK.sentence(1, "A TABLE of two POINTS.");
        FewWays x = new FewWays();
        CHECK.due("at(0, 2)", x.at(0, 2), -1);
        CHECK.due("at(2, 2)", x.at(2, 2), -1);
        CHECK.due("set(2, 0, 1)", x.set(2, 0, 1), -1);
        CHECK.due("left(2, 1)", x.left(2, 1), -1);
        CHECK.due("bulk(3)", x.bulk(3), -2000000000000000000L);
        CHECK.due("peel(4)", x.peel(4), -1);
        CHECK.due("add(4, 1)", x.add(4, 1), -1);
        CHECK.due("centres(3, 0, 0)", x.centres(3, 0, 0), -1);
        CHECK.due("line(136, 0, 0)", x.line(136, 0, 0), -1);
    }

    private static void newDistance() {
        CHECK.sentence(1, "1 at first");
        FewWays x = new FewWays();
        CHECK.due("at(0, 1)", x.at(0, 1), 1);
        CHECK.due("at(1, 0)", x.at(1, 0), 1);
        CHECK.due("set(0, 1, 0)", x.set(0, 1, 0), 1);
    }

    private static void newItself() {
        CHECK.sentence(1, "of one and itself 0");
        FewWays x = new FewWays();
        CHECK.due("at(0, 0)", x.at(0, 0), 0);
        CHECK.due("at(1, 1)", x.at(1, 1), 0);
    }

    private static void newNumbers() {
        CHECK.sentence(1, "0 at first");
        FewWays x = new FewWays();
        CHECK.due("signs(10, 0)", x.signs(10, 0), 1024);
        for (int i = 0; i <= 9; i++) {
            CHECK.due("number(" + i + ", 1000)", x.number(i, 1000), 0);
        }
    }

    private static void newBesideAnother() {
        CHECK.sentence(1, "A TABLE of two POINTS.");
        String first = Make.state(new FewWays());
        FewWays other = Make.busy(6);
        CHECK.same("a busy object beside a new one", first, new FewWays());
        String busy = Make.state(other);
        new FewWays().table(3);
        CHECK.same("a new object beside a busy one", busy, other);
    }

    private static void tableSizes() {
        CHECK.sentence(2, "POINTS 0 .. n - 1 (2 to 6");
        FewWays x = new FewWays();
        int[] sizes = {2, 6, 5, 3, 4, 2, 2, 6, 6};
        for (int n : sizes) {
            CHECK.due("table(" + n + ")", x.table(n), n);
            CHECK.due("count()", x.count(), n);
            CHECK.due("at(" + (n - 1) + ", 0)", x.at(n - 1, 0), 1);
            CHECK.due("at(" + n + ", 0)", x.at(n, 0), -1);
        }
    }

    private static void tableBeyond() {
        CHECK.sentence(2, "A TABLE of n POINTS, all DISTANCES 1: n. BAD.");
        FewWays x = new FewWays();
        CHECK.due("table(1)", x.table(1), -1);
        CHECK.due("table(7)", x.table(7), -1);
        for (int n : Edges.beyond(2, 6)) {
            CHECK.due("table(" + n + ")", x.table(n), -1);
        }
        CHECK.due("table(0)", x.table(0), -1);
        CHECK.due("table(8)", x.table(8), -1);
        CHECK.due("count()", x.count(), 2);
    }

    private static void tableAnew() {
        CHECK.sentence(2, "all DISTANCES 1");
        for (int before = 2; before <= 6; before++) {
            for (int n = 2; n <= 6; n++) {
                FewWays x = Make.busy(before);
                x.table(n);
                x.table(6);
                x.table(n);
                for (int i = 0; i < n; i++) {
                    for (int j = i + 1; j < n; j++) {
                        CHECK.due("at(" + i + ", " + j + ") of " + n + " after " + before, x.at(i, j), 1);
                        CHECK.due("at(" + j + ", " + i + ") of " + n + " after " + before, x.at(j, i), 1);
                    }
                }
            }
        }
    }

    private static void tableItself() {
        CHECK.sentence(2, "of one and itself 0");
        for (int n = 2; n <= 6; n++) {
            FewWays x = Make.busy(6);
            x.table(n);
            for (int i = 0; i < n; i++) {
                CHECK.due("at(" + i + ", " + i + ") of " + n, x.at(i, i), 0);
            }
        }
    }

    private static void tableNothingChanges() {
        CHECK.sentence(2, "nothing changes then");
        for (int n = 2; n <= 6; n++) {
            FewWays x = Make.busy(n);
            String before = Make.state(x);
            for (int none : Edges.beyond(2, 6)) {
                x.table(none);
            }
            CHECK.same("a refused table", before, x);
        }
    }

    private static void setEnds() {
        CHECK.sentence(3, "of each two a DISTANCE (0 to 30");
        FewWays x = new FewWays();
        x.table(6);
        for (int i = 0; i < 6; i++) {
            for (int j = i + 1; j < 6; j++) {
                String pair = "(" + i + ", " + j;
                CHECK.due("set" + pair + ", 0)", x.set(i, j, 0), 1);
                CHECK.due("at" + pair + ")", x.at(i, j), 0);
                CHECK.due("set" + pair + ", 30)", x.set(i, j, 30), 0);
                CHECK.due("at" + pair + ")", x.at(i, j), 30);
                CHECK.due("set" + pair + ", 31)", x.set(i, j, 31), -1);
                CHECK.due("set" + pair + ", -1)", x.set(i, j, -1), -1);
                CHECK.due("set" + pair + ", 29)", x.set(i, j, 29), 30);
            }
        }
    }

    private static void setBeyond() {
        CHECK.sentence(3, "A DISTANCE (i is not j): what it was. BAD.");
        FewWays x = new FewWays();
        for (int d : Edges.beyond(0, 30)) {
            CHECK.due("set(0, 1, " + d + ")", x.set(0, 1, d), -1);
            CHECK.due("set(1, 0, " + d + ")", x.set(1, 0, d), -1);
            CHECK.due("at(0, 1)", x.at(0, 1), 1);
        }
    }

    private static void setItself() {
        CHECK.sentence(3, "(i is not j)");
        for (int n = 2; n <= 6; n++) {
            FewWays x = Make.busy(n);
            for (int i = 0; i < n; i++) {
                CHECK.due("set(" + i + ", " + i + ", 0)", x.set(i, i, 0), -1);
                CHECK.due("set(" + i + ", " + i + ", 1)", x.set(i, i, 1), -1);
                CHECK.due("set(" + i + ", " + i + ", 30)", x.set(i, i, 30), -1);
                CHECK.due("at(" + i + ", " + i + ")", x.at(i, i), 0);
            }
        }
    }

    private static void setPoints() {
        CHECK.sentence(3, "POINTS 0 .. n - 1");
        for (int n = 2; n <= 6; n++) {
            FewWays x = new FewWays();
            x.table(n);
            int last = n - 1;
            CHECK.due("set(0, " + last + ", 30) of " + n, x.set(0, last, 30), 1);
            CHECK.due("set(" + last + ", 0, 0) of " + n, x.set(last, 0, 0), 30);
            CHECK.due("set(0, " + n + ", 1) of " + n, x.set(0, n, 1), -1);
            CHECK.due("set(" + n + ", 0, 1) of " + n, x.set(n, 0, 1), -1);
            CHECK.due("set(0, -1, 1) of " + n, x.set(0, -1, 1), -1);
            CHECK.due("set(-1, 0, 1) of " + n, x.set(-1, 0, 1), -1);
        }
    }

    private static void setNoPoint() {
        CHECK.sentence(3, "a number is none that is told, there is no such thing");
        for (int n = 2; n <= 6; n++) {
            FewWays x = Make.busy(n);
            for (int none : Edges.beyond(0, n - 1)) {
                for (int i = 0; i < n; i++) {
                    CHECK.due("set(" + i + ", " + none + ", 5) of " + n, x.set(i, none, 5), -1);
                    CHECK.due("set(" + none + ", " + i + ", 5) of " + n, x.set(none, i, 5), -1);
                }
                CHECK.due("set(" + none + ", " + none + ", 5) of " + n, x.set(none, none, 5), -1);
                CHECK.due("set(0, " + none + ", 31) of " + n, x.set(0, none, 31), -1);
            }
        }
    }

    private static void setWhatItWas() {
        CHECK.sentence(3, "what it was");
        FewWays x = new FewWays();
        int[] distances = {30, 0, 0, 30, 30, 1, 1, 29, 0};
        int was = 1;
        for (int d : distances) {
            CHECK.due("set(1, 0, " + d + ")", x.set(1, 0, d), was);
            x.set(0, 1, 31);
            x.set(0, 1, -1);
            was = d;
        }
        CHECK.due("set(0, 1, 7)", x.set(0, 1, 7), 0);
    }

    private static void setBothWaysRound() {
        CHECK.sentence(3, "of each two a DISTANCE");
        FewWays x = new FewWays();
        x.table(6);
        int d = 0;
        for (int i = 5; i >= 0; i--) {
            for (int j = 0; j < i; j++) {
                d = (d + 7) % 31;
                CHECK.due("set(" + i + ", " + j + ", " + d + ")", x.set(i, j, d), 1);
                CHECK.due("at(" + j + ", " + i + ")", x.at(j, i), d);
                CHECK.due("set(" + j + ", " + i + ", " + d + ")", x.set(j, i, d), d);
                CHECK.due("at(" + i + ", " + j + ")", x.at(i, j), d);
            }
        }
    }

    private static void setNothingChanges() {
        CHECK.sentence(3, "nothing changes then");
        for (int n = 2; n <= 6; n++) {
            FewWays x = Make.busy(n);
            String before = Make.state(x);
            for (int d : Edges.beyond(0, 30)) {
                x.set(0, n - 1, d);
                x.set(n - 1, n - 1, d);
            }
            for (int none : Edges.beyond(0, n - 1)) {
                x.set(0, none, 3);
                x.set(none, n - 1, 3);
            }
            x.set(n - 1, n - 1, 3);
            CHECK.same("a refused set", before, x);
        }
    }

    private static void atEnds() {
        CHECK.sentence(4, "a DISTANCE (0 to 30");
        for (int n = 2; n <= 6; n++) {
            FewWays none = Make.even(n, 0);
            FewWays far = Make.even(n, 30);
            for (int i = 0; i < n; i++) {
                for (int j = 0; j < n; j++) {
                    CHECK.due("at(" + i + ", " + j + ") of all 0", none.at(i, j), 0);
                    CHECK.due("at(" + i + ", " + j + ") of all 30", far.at(i, j), i == j ? 0 : 30);
                }
            }
        }
    }

    private static void atItself() {
        CHECK.sentence(4, "of one and itself 0");
        for (int n = 2; n <= 6; n++) {
            FewWays x = Make.even(n, 30);
            x.add(2, -7);
            for (int i = 0; i < n; i++) {
                CHECK.due("at(" + i + ", " + i + ")", x.at(i, i), 0);
            }
        }
    }

    private static void atPoints() {
        CHECK.sentence(4, "POINTS 0 .. n - 1");
        for (int n = 2; n <= 6; n++) {
            FewWays x = Make.even(n, 30);
            int last = n - 1;
            CHECK.due("at(0, " + last + ") of " + n, x.at(0, last), 30);
            CHECK.due("at(" + last + ", " + last + ") of " + n, x.at(last, last), 0);
            CHECK.due("at(0, " + n + ") of " + n, x.at(0, n), -1);
            CHECK.due("at(" + n + ", 0) of " + n, x.at(n, 0), -1);
            CHECK.due("at(" + n + ", " + n + ") of " + n, x.at(n, n), -1);
            CHECK.due("at(0, -1) of " + n, x.at(0, -1), -1);
            CHECK.due("at(-1, 0) of " + n, x.at(-1, 0), -1);
            CHECK.due("at(-1, -1) of " + n, x.at(-1, -1), -1);
        }
    }

    private static void atNoPoint() {
        CHECK.sentence(4, "a number is none that is told, there is no such thing");
        for (int n = 2; n <= 6; n++) {
            FewWays x = Make.busy(6);
            x.table(n);
            for (int none : Edges.beyond(0, n - 1)) {
                for (int i = 0; i < n; i++) {
                    CHECK.due("at(" + i + ", " + none + ") of " + n, x.at(i, none), -1);
                    CHECK.due("at(" + none + ", " + i + ") of " + n, x.at(none, i), -1);
                }
                CHECK.due("at(" + none + ", " + none + ") of " + n, x.at(none, none), -1);
            }
        }
    }

    private static void atNothingChanges() {
        CHECK.sentence(4, "nothing changes then");
        FewWays x = Make.busy(5);
        String before = Make.state(x);
        for (int none : Edges.beyond(0, 4)) {
            x.at(0, none);
            x.at(none, 4);
        }
        x.at(4, 4);
        x.at(4, 0);
        CHECK.same("at", before, x);
    }

    private static void countAll() {
        CHECK.sentence(19, "(2 to 6; 2 at first)");
        FewWays x = new FewWays();
        CHECK.due("count() of a new object", x.count(), 2);
        int[] sizes = {6, 2, 3, 5, 4, 6};
        for (int n : sizes) {
            x.table(n);
            CHECK.due("count() after table(" + n + ")", x.count(), n);
            CHECK.due("count() once more", x.count(), n);
        }
    }

    private static void countAfterRefused() {
        CHECK.sentence(19, "nothing changes then");
        for (int n = 2; n <= 6; n++) {
            FewWays x = Make.busy(n);
            for (int none : Edges.beyond(2, 6)) {
                x.table(none);
                CHECK.due("count() after table(" + none + ")", x.count(), n);
            }
            x.set(0, 1, 0);
            x.add(2, 3);
            x.peel(2);
            x.line(8, 0, 0);
            x.bulk(n);
            CHECK.due("count() after other calls", x.count(), n);
            String before = Make.state(x);
            x.count();
            CHECK.same("count()", before, x);
        }
    }
}
