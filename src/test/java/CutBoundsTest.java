/** The boundary cases of promises 10 to 12: add, peel, left. */
public final class CutBoundsTest {
    private static final Check CHECK = new Check("CutBoundsTest");
    private static final int BAD = -1, NO = -2;

    public static void main(String[] args) {
        addCuts();
        addNoCut();
        addTimes();
        addNoTimes();
        addEnds();
        addOnlyAcross();
        addNothing();
        addBadBeforeNo();
        addNothingChanges();
        peelCuts();
        peelNoCut();
        peelMostAndNone();
        peelHalves();
        peelNotBelowNothing();
        peelLawOnTheEdge();
        peelLawBroken();
        peelByRisingBits();
        peelTableStays();
        leftPoints();
        leftNoPoint();
        leftItself();
        leftNone();
        leftAll();
        leftTableStays();
        CHECK.end(10, 11, 12);
    }

    private static boolean isCut(int cut, int n) {
        return cut >= 2 && cut % 2 == 0 && cut < 1 << n;
    }

    private static void addCuts() {
        CHECK.sentence(10, "a set S of POINTS (as bits, POINT 0 not in it, not empty)");
        for (int n = 2; n <= 6; n++) {
            FewWays x = Make.even(n, 15);
            for (int cut = -3; cut <= 2 << n; cut++) {
                CHECK.due("add(" + cut + ", 0) of " + n, x.add(cut, 0), isCut(cut, n) ? 0 : BAD);
            }
            int all = (1 << n) - 2;
            CHECK.due("add(2, 1) of " + n, x.add(2, 1), 0);
            CHECK.due("at(0, 1)", x.at(0, 1), 16);
            CHECK.due("add(" + all + ", 1) of " + n, x.add(all, 1), 0);
            CHECK.due("at(0, 1)", x.at(0, 1), 17);
            CHECK.due("add(" + (all + 2) + ", 1) of " + n, x.add(all + 2, 1), BAD);
            CHECK.due("add(" + (all + 1) + ", 1) of " + n, x.add(all + 1, 1), BAD);
            CHECK.due("add(1, 1) of " + n, x.add(1, 1), BAD);
            CHECK.due("add(0, 1) of " + n, x.add(0, 1), BAD);
            CHECK.due("at(0, 1)", x.at(0, 1), 17);
        }
    }

    private static void addNoCut() {
        CHECK.sentence(10, "a number is none that is told, there is no such thing");
        for (int n = 2; n <= 6; n++) {
            FewWays x = Make.busy(n);
            for (int cut : Edges.beyond(2, (1 << n) - 2)) {
                CHECK.due("add(" + cut + ", 1) of " + n, x.add(cut, 1), BAD);
                CHECK.due("add(" + cut + ", 0) of " + n, x.add(cut, 0), BAD);
            }
            for (int cut = 1; cut < 1 << n; cut += 2) {
                CHECK.due("add(" + cut + ", 1) of " + n, x.add(cut, 1), BAD);
            }
        }
    }

    private static void addTimes() {
        CHECK.sentence(10, "a CUT w times (w -30 to 30 wholes)");
        FewWays x = Make.even(2, 0);
        CHECK.due("add(2, 30)", x.add(2, 30), 0);
        CHECK.due("at(0, 1)", x.at(0, 1), 30);
        CHECK.due("add(2, -30)", x.add(2, -30), 0);
        CHECK.due("at(0, 1)", x.at(0, 1), 0);
        FewWays six = Make.even(6, 0);
        CHECK.due("add(42, 30)", six.add(42, 30), 0);
        CHECK.due("at(0, 5)", six.at(0, 5), 30);
        CHECK.due("at(4, 3)", six.at(4, 3), 30);
        CHECK.due("at(1, 5)", six.at(1, 5), 0);
        CHECK.due("add(42, -30)", six.add(42, -30), 0);
        CHECK.due("at(0, 5)", six.at(0, 5), 0);
    }

    private static void addNoTimes() {
        CHECK.sentence(10, "(w -30 to 30 wholes)");
        FewWays none = Make.even(3, 0);
        FewWays far = Make.even(3, 30);
        for (int w : Edges.beyond(-30, 30)) {
            CHECK.due("add(2, " + w + ") of all 0", none.add(2, w), BAD);
            CHECK.due("add(6, " + w + ") of all 30", far.add(6, w), BAD);
        }
        CHECK.due("add(2, 31)", none.add(2, 31), BAD);
        CHECK.due("add(2, -31)", far.add(2, -31), BAD);
        CHECK.due("at(0, 1) of all 0", none.at(0, 1), 0);
        CHECK.due("at(0, 1) of all 30", far.at(0, 1), 30);
    }

    private static void addEnds() {
        CHECK.sentence(10, "NO: a DISTANCE would not be 0 to 30.");
        FewWays x = Make.table(3, 7, 12, 20);
        CHECK.due("add(2, 11): 1, 2 would be 31", x.add(2, 11), NO);
        CHECK.due("add(2, 10): 1, 2 is 30", x.add(2, 10), 0);
        CHECK.due("at(1, 2)", x.at(1, 2), 30);
        CHECK.due("add(2, 1)", x.add(2, 1), NO);
        CHECK.due("add(2, -18): 0, 1 would be -1", x.add(2, -18), NO);
        CHECK.due("add(2, -17): 0, 1 is 0", x.add(2, -17), 0);
        CHECK.due("at(0, 1)", x.at(0, 1), 0);
        CHECK.due("add(2, -1)", x.add(2, -1), NO);
        CHECK.due("add(2, 30)", x.add(2, 30), NO);
        CHECK.due("add(2, -30)", x.add(2, -30), NO);
    }

    private static void addOnlyAcross() {
        CHECK.sentence(10, "DISTANCE 1 between one in it and one not, else 0");
        FewWays x = Make.table(4, 5, 5, 0, 30, 30, 5);
        CHECK.due("add(6, -1) with 0, 3 at 30 and 1, 2 at 0", x.add(6, -1), 0);
        CHECK.due("at(0, 3)", x.at(0, 3), 30);
        CHECK.due("at(1, 2)", x.at(1, 2), 0);
        CHECK.due("at(0, 1)", x.at(0, 1), 4);
        CHECK.due("at(0, 2)", x.at(0, 2), 4);
        CHECK.due("at(1, 3)", x.at(1, 3), 29);
        CHECK.due("at(2, 3)", x.at(2, 3), 4);
        CHECK.due("add(6, 1)", x.add(6, 1), 0);
        CHECK.due("at(1, 3)", x.at(1, 3), 30);
        CHECK.due("add(6, 1) once more", x.add(6, 1), NO);
        FewWays six = Make.even(6, 30);
        six.set(0, 5, 29);
        CHECK.due("add(32, 1): 4, 5 would be 31", six.add(32, 1), NO);
        CHECK.due("add(30, 1): 0, 1 would be 31", six.add(30, 1), NO);
    }

    private static void addNothing() {
        CHECK.sentence(10, "A CUT is ADDED w times: 0.");
        FewWays x = Make.table(3, 0, 30, 15);
        String before = Make.state(x);
        CHECK.due("add(2, 0)", x.add(2, 0), 0);
        CHECK.due("add(4, 0)", x.add(4, 0), 0);
        CHECK.due("add(6, 0)", x.add(6, 0), 0);
        CHECK.same("a cut added 0 times", before, x);
    }

    private static void addBadBeforeNo() {
        CHECK.sentence(10, "Of several the first");
        FewWays x = Make.even(3, 30);
        CHECK.due("add(2, 31)", x.add(2, 31), BAD);
        CHECK.due("add(2, 30)", x.add(2, 30), NO);
        CHECK.due("add(2, -31)", x.add(2, -31), BAD);
        CHECK.due("add(1, 30)", x.add(1, 30), BAD);
        CHECK.due("add(8, 30)", x.add(8, 30), BAD);
        CHECK.due("add(0, 30)", x.add(0, 30), BAD);
        CHECK.due("add(3, 99)", x.add(3, 99), BAD);
    }

    private static void addNothingChanges() {
        CHECK.sentence(10, "nothing changes then");
        for (int n = 2; n <= 6; n++) {
            FewWays x = Make.busy(n);
            x.set(n - 2, n - 1, 30);
            int last = 1 << n - 1;
            String before = Make.state(x);
            CHECK.due("add(" + last + ", 1), whose last distance is 30", x.add(last, 1), NO);
            CHECK.due("add(2, -30)", x.add(2, -30), n == 2 ? 0 : NO);
            CHECK.due("add(2, 30)", x.add(2, 30), n == 2 ? 0 : NO);
            for (int cut : Edges.beyond(2, (1 << n) - 2)) {
                x.add(cut, -1);
            }
            for (int w : Edges.beyond(-30, 30)) {
                x.add(2, w);
            }
            CHECK.same("a refused add", before, x);
        }
    }

    private static void peelCuts() {
        CHECK.sentence(11, "a set S of POINTS (as bits, POINT 0 not in it, not empty)");
        for (int n = 2; n <= 6; n++) {
            FewWays x = Make.busy(n);
            Model model = Model.of(x);
            for (int cut = -3; cut <= 2 << n; cut++) {
                CHECK.due("peel(" + cut + ") of " + n, x.peel(cut), isCut(cut, n) ? model.peel(cut) : BAD);
            }
        }
    }

    private static void peelNoCut() {
        CHECK.sentence(11, "PEELED: w of a CUT. BAD.");
        for (int n = 2; n <= 6; n++) {
            FewWays x = Make.busy(6);
            x.table(n);
            for (int cut : Edges.beyond(2, (1 << n) - 2)) {
                CHECK.due("peel(" + cut + ") of " + n, x.peel(cut), BAD);
            }
            CHECK.due("peel(0) of " + n, x.peel(0), BAD);
            CHECK.due("peel(1) of " + n, x.peel(1), BAD);
            CHECK.due("peel(3) of " + n, x.peel(3), BAD);
            CHECK.due("peel(" + (1 << n) + ") of " + n, x.peel(1 << n), BAD);
            CHECK.due("peel(" + ((1 << n) - 1) + ") of " + n, x.peel((1 << n) - 1), BAD);
        }
    }

    private static void peelMostAndNone() {
        CHECK.sentence(11, "w is the greatest number of halves");
        FewWays two = Make.even(2, 30);
        CHECK.due("peel(2) of 30", two.peel(2), 60);
        two.set(0, 1, 1);
        CHECK.due("peel(2) of 1", two.peel(2), 2);
        two.set(0, 1, 0);
        CHECK.due("peel(2) of 0", two.peel(2), 0);
        for (int n = 2; n <= 6; n++) {
            for (int cut = 2; cut < 1 << n; cut += 2) {
                FewWays x = Make.even(n, 0);
                x.add(cut, 30);
                for (int other = 2; other < 1 << n; other += 2) {
                    CHECK.due("peel(" + other + ") of 30 times " + cut, x.peel(other), other == cut ? 60 : 0);
                }
            }
        }
    }

    private static void peelHalves() {
        CHECK.sentence(11, "(a number w of halves)");
        FewWays odd = Make.table(3, 1, 1, 1);
        CHECK.due("peel(2) of 1 1 1", odd.peel(2), 1);
        CHECK.due("peel(4) of 1 1 1", odd.peel(4), 1);
        CHECK.due("peel(6) of 1 1 1", odd.peel(6), 1);
        FewWays far = Make.table(3, 29, 30, 30);
        CHECK.due("peel(2) of 29 30 30", far.peel(2), 29);
        CHECK.due("peel(4) of 29 30 30", far.peel(4), 31);
        CHECK.due("peel(6) of 29 30 30", far.peel(6), 29);
    }

    private static void peelNotBelowNothing() {
        CHECK.sentence(11, "with which no DISTANCE comes below 0");
        for (int distance = 0; distance <= 30; distance++) {
            FewWays x = Make.even(2, distance);
            CHECK.due("peel(2) of " + distance, x.peel(2), 2 * distance);
        }
        FewWays x = Make.table(3, 1, 30, 30);
        CHECK.due("peel(2) of 1 30 30", x.peel(2), 1);
        CHECK.due("peel(4) of 1 30 30", x.peel(4), 59);
        CHECK.due("peel(6) of 1 30 30", x.peel(6), 1);
        FewWays together = Make.table(3, 0, 30, 30);
        CHECK.due("peel(2) of 0 30 30", together.peel(2), 0);
        CHECK.due("peel(4) of 0 30 30", together.peel(4), 60);
        CHECK.due("peel(6) of 0 30 30", together.peel(6), 0);
    }

    private static void peelLawOnTheEdge() {
        CHECK.sentence(11, "LAW 0 is not broken by what is left");
        FewWays x = Make.table(3, 15, 30, 15);
        CHECK.due("peel(2) of 15 30 15", x.peel(2), 0);
        CHECK.due("peel(4) of 15 30 15", x.peel(4), 30);
        CHECK.due("peel(6) of 15 30 15", x.peel(6), 30);
        FewWays near = Make.table(3, 15, 29, 15);
        CHECK.due("peel(2) of 15 29 15", near.peel(2), 1);
        CHECK.due("peel(4) of 15 29 15", near.peel(4), 29);
        CHECK.due("peel(6) of 15 29 15", near.peel(6), 29);
    }

    private static void peelLawBroken() {
        CHECK.sentence(11, "if it was not by what was there; if it was, w is 0");
        FewWays x = Make.table(3, 15, 30, 14);
        CHECK.due("peel(2) of 15 30 14", x.peel(2), 0);
        CHECK.due("peel(4) of 15 30 14", x.peel(4), 0);
        CHECK.due("peel(6) of 15 30 14", x.peel(6), 0);
        FewWays six = Make.even(6, 15);
        six.set(4, 5, 30);
        CHECK.due("peel(16) with 4, 5 as far as can be", six.peel(16), 15);
        CHECK.due("peel(30) with 4, 5 as far as can be", six.peel(30), 15);
        six.set(3, 4, 14);
        for (int cut = 2; cut < 64; cut += 2) {
            CHECK.due("peel(" + cut + ") with 4, 5 too far", six.peel(cut), 0);
        }
    }

    /** From the last cut on others would come off. */
    private static void peelByRisingBits() {
        CHECK.sentence(11, "of CUTS by rising bits each is taken off so often");
        FewWays x = Make.table(5, 5, 4, 3, 4, 5, 3, 4, 3, 5, 4);
        int[] due = {1, 1, 2, 2, 0, 1, 1, 1, 3, 0, 0, 1, 0, 0, 3};
        for (int cut = 2; cut < 32; cut += 2) {
            CHECK.due("peel(" + cut + ")", x.peel(cut), due[cut / 2 - 1]);
        }
        FewWays even = Make.even(4, 30);
        int[] single = {30, 30, 0, 30, 0, 0, 30};
        for (int cut = 2; cut < 16; cut += 2) {
            CHECK.due("peel(" + cut + ") of all 30", even.peel(cut), single[cut / 2 - 1]);
        }
    }

    private static void peelTableStays() {
        CHECK.sentence(11, "(THE TABLE stays.)");
        for (int n = 2; n <= 6; n++) {
            FewWays x = Make.busy(n);
            String before = Make.state(x);
            for (int cut = 0; cut <= 1 << n; cut++) {
                x.peel(cut);
            }
            x.peel(Integer.MIN_VALUE);
            x.peel(Integer.MAX_VALUE);
            CHECK.same("peel", before, x);
        }
    }

    private static void leftPoints() {
        CHECK.sentence(12, "POINTS 0 .. n - 1");
        for (int n = 2; n <= 6; n++) {
            FewWays x = Make.even(n, 30);
            int last = n - 1;
            CHECK.due("left(0, " + last + ") of " + n, x.left(0, last), 0);
            CHECK.due("left(" + last + ", " + last + ") of " + n, x.left(last, last), 0);
            CHECK.due("left(0, " + n + ") of " + n, x.left(0, n), BAD);
            CHECK.due("left(" + n + ", 0) of " + n, x.left(n, 0), BAD);
            CHECK.due("left(" + n + ", " + n + ") of " + n, x.left(n, n), BAD);
            CHECK.due("left(0, -1) of " + n, x.left(0, -1), BAD);
            CHECK.due("left(-1, 0) of " + n, x.left(-1, 0), BAD);
            CHECK.due("left(-1, -1) of " + n, x.left(-1, -1), BAD);
        }
    }

    private static void leftNoPoint() {
        CHECK.sentence(12, "WHAT IS LEFT of DISTANCE i, j, in halves. BAD.");
        for (int n = 2; n <= 6; n++) {
            FewWays x = Make.busy(6);
            x.table(n);
            for (int none : Edges.beyond(0, n - 1)) {
                for (int i = 0; i < n; i++) {
                    CHECK.due("left(" + i + ", " + none + ") of " + n, x.left(i, none), BAD);
                    CHECK.due("left(" + none + ", " + i + ") of " + n, x.left(none, i), BAD);
                }
                CHECK.due("left(" + none + ", " + none + ") of " + n, x.left(none, none), BAD);
            }
        }
    }

    private static void leftItself() {
        CHECK.sentence(12, "of one and itself 0");
        FewWays x = Make.even(6, 30);
        x.set(4, 5, 0);
        x.set(3, 4, 1);
        for (int i = 0; i < 6; i++) {
            CHECK.due("left(" + i + ", " + i + ")", x.left(i, i), 0);
        }
    }

    private static void leftNone() {
        CHECK.sentence(12, "WHAT IS LEFT is 0 for all, if THE TABLE is a sum of CUTS as they were PEELED.");
        for (int n = 2; n <= 6; n++) {
            FewWays x = Make.even(n, 30);
            for (int i = 0; i < n; i++) {
                for (int j = 0; j < n; j++) {
                    CHECK.due("left(" + i + ", " + j + ") of " + n, x.left(i, j), 0);
                }
            }
        }
        FewWays line = Make.onLine(0, 30, 7, 7, 1, 29);
        FewWays odd = Make.table(3, 29, 30, 30);
        for (int i = 0; i < 3; i++) {
            CHECK.due("left(" + i + ", 5) of a line", line.left(i, 5), 0);
            CHECK.due("left(" + i + ", 2) of 29 30 30", odd.left(i, 2), 0);
        }
    }

    private static void leftAll() {
        CHECK.sentence(12, "in halves");
        FewWays x = Make.table(3, 0, 30, 29);
        CHECK.due("left(0, 1) of 0 30 29", x.left(0, 1), 0);
        CHECK.due("left(0, 2) of 0 30 29", x.left(0, 2), 60);
        CHECK.due("left(2, 1) of 0 30 29", x.left(2, 1), 58);
        FewWays some = Make.table(5, 5, 4, 3, 4, 5, 3, 4, 3, 5, 4);
        Model model = Model.of(some);
        for (int i = 0; i < 5; i++) {
            for (int j = 0; j < 5; j++) {
                CHECK.due("left(" + i + ", " + j + ")", some.left(i, j), model.left(i, j));
            }
        }
        FewWays odd = Make.table(5, 1, 1, 2, 1, 2, 2, 2, 2, 2, 2);
        CHECK.due("left(0, 1) of an odd one", odd.left(0, 1), 1);
        CHECK.due("left(3, 4) of an odd one", odd.left(3, 4), 1);
        CHECK.due("left(0, 4) of an odd one", odd.left(0, 4), 2);
        FewWays cube = Make.table(5, 1, 1, 2, 2, 1, 1, 2, 1, 1, 2);
        CHECK.due("left(0, 1) of two points by three", cube.left(0, 1), 2);
        CHECK.due("left(3, 4) of two points by three", cube.left(3, 4), 4);
    }

    private static void leftTableStays() {
        CHECK.sentence(12, "nothing changes then");
        for (int n = 2; n <= 6; n++) {
            FewWays x = Make.busy(n);
            String before = Make.state(x);
            x.left(0, n - 1);
            for (int none : Edges.beyond(0, n - 1)) {
                x.left(none, 0);
                x.left(n - 1, none);
            }
            CHECK.same("left", before, x);
        }
    }
}
