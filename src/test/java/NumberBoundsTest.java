/** The boundary cases of promises 16 to 18: number, signs, least. */
public final class NumberBoundsTest {
    private static final Check CHECK = new Check("NumberBoundsTest");
    private static final int BAD = -1;

    public static void main(String[] args) {
        numberPlaces();
        numberNoPlace();
        numberEnds();
        numberBeyond();
        numberWhatItWas();
        numberNothingChanges();
        signsLengths();
        signsNoLength();
        signsSizes();
        signsNoSize();
        signsAtMost();
        signsNoneAndAll();
        signsOfTheFirst();
        leastLengths();
        leastNoLength();
        leastWhats();
        leastNothing();
        leastOfSeveral();
        leastGreatestBits();
        leastGreatestSum();
        leastOfTheFirst();
        signsNothingChanges();
        leastNothingChanges();
        CHECK.end(16, 17, 18);
    }

    private static FewWays of(int... numbers) {
        FewWays x = new FewWays();
        for (int i = 0; i < numbers.length; i++) {
            x.number(i, numbers[i]);
        }
        return x;
    }

    private static FewWays allOf(int v) {
        return of(v, v, v, v, v, v, v, v, v, v);
    }

    private static void numberPlaces() {
        CHECK.sentence(16, "NUMBERS 0 to 9");
        FewWays x = new FewWays();
        CHECK.due("number(0, 5)", x.number(0, 5), 0);
        CHECK.due("number(9, 6)", x.number(9, 6), 0);
        CHECK.due("number(10, 7)", x.number(10, 7), -10000);
        CHECK.due("number(-1, 8)", x.number(-1, 8), -10000);
        CHECK.due("number(0, 0)", x.number(0, 0), 5);
        CHECK.due("number(9, 0)", x.number(9, 0), 6);
    }

    private static void numberNoPlace() {
        CHECK.sentence(16, "BAD answers -10000.");
        FewWays x = allOf(3);
        for (int i : Edges.beyond(0, 9)) {
            CHECK.due("number(" + i + ", 0)", x.number(i, 0), -10000);
            CHECK.due("number(" + i + ", 1001)", x.number(i, 1001), -10000);
        }
        for (int i = 0; i <= 9; i++) {
            CHECK.due("number(" + i + ", 0)", x.number(i, 0), 3);
        }
    }

    private static void numberEnds() {
        CHECK.sentence(16, "(-1000 to 1000; 0 at first)");
        FewWays x = new FewWays();
        for (int i = 0; i <= 9; i++) {
            CHECK.due("number(" + i + ", 1000)", x.number(i, 1000), 0);
            CHECK.due("number(" + i + ", -1000)", x.number(i, -1000), 1000);
            CHECK.due("number(" + i + ", 1001)", x.number(i, 1001), -10000);
            CHECK.due("number(" + i + ", -1001)", x.number(i, -1001), -10000);
            CHECK.due("number(" + i + ", 0)", x.number(i, 0), -1000);
        }
    }

    private static void numberBeyond() {
        CHECK.sentence(16, "a number is none that is told, there is no such thing");
        FewWays x = allOf(4);
        for (int v : Edges.beyond(-1000, 1000)) {
            CHECK.due("number(0, " + v + ")", x.number(0, v), -10000);
            CHECK.due("number(9, " + v + ")", x.number(9, v), -10000);
        }
        CHECK.due("number(0, -10000)", x.number(0, -10000), -10000);
        CHECK.due("number(0, 0)", x.number(0, 0), 4);
        CHECK.due("number(9, 0)", x.number(9, 0), 4);
    }

    private static void numberWhatItWas() {
        CHECK.sentence(16, "NUMBER i becomes v: what it was.");
        FewWays x = new FewWays();
        int[] values = {1000, 1000, -1000, -1000, 0, 0, -1, 1, -10, 999};
        int was = 0;
        for (int v : values) {
            CHECK.due("number(5, " + v + ")", x.number(5, v), was);
            x.number(5, 1001);
            x.number(4, 77);
            x.number(6, -77);
            was = v;
        }
        CHECK.due("number(5, 0)", x.number(5, 0), 999);
    }

    private static void numberNothingChanges() {
        CHECK.sentence(16, "nothing changes then");
        FewWays x = Make.busy(6);
        String before = Make.state(x);
        for (int i : Edges.beyond(0, 9)) {
            x.number(i, 1);
        }
        for (int v : Edges.beyond(-1000, 1000)) {
            x.number(0, v);
            x.number(9, v);
            x.number(10, v);
        }
        CHECK.same("a refused number", before, x);
    }

    private static void signsLengths() {
        CHECK.sentence(17, "the first c of them (1 to 10)");
        FewWays x = allOf(1);
        CHECK.due("signs(0, 10000)", x.signs(0, 10000), BAD);
        for (int c = 1; c <= 10; c++) {
            CHECK.due("signs(" + c + ", 10000)", x.signs(c, 10000), 1 << c);
            CHECK.due("signs(" + c + ", " + (c - 1) + ")", x.signs(c, c - 1), (1 << c) - 2);
        }
        CHECK.due("signs(11, 10000)", x.signs(11, 10000), BAD);
    }

    private static void signsNoLength() {
        CHECK.sentence(17, "How many rows of SIGNS of the first c make a sum of size t (0 to 10000) at most. BAD.");
        FewWays x = allOf(1);
        for (int c : Edges.beyond(1, 10)) {
            CHECK.due("signs(" + c + ", 0)", x.signs(c, 0), BAD);
            CHECK.due("signs(" + c + ", 10000)", x.signs(c, 10000), BAD);
            CHECK.due("signs(" + c + ", -1)", x.signs(c, -1), BAD);
        }
    }

    private static void signsSizes() {
        CHECK.sentence(17, "a sum of size t (0 to 10000)");
        FewWays x = allOf(1000);
        CHECK.due("signs(10, 0)", x.signs(10, 0), 252);
        CHECK.due("signs(10, 9999)", x.signs(10, 9999), 1022);
        CHECK.due("signs(10, 10000)", x.signs(10, 10000), 1024);
        CHECK.due("signs(10, 10001)", x.signs(10, 10001), BAD);
        CHECK.due("signs(10, -1)", x.signs(10, -1), BAD);
        FewWays below = allOf(-1000);
        CHECK.due("signs(10, 9999) of -1000", below.signs(10, 9999), 1022);
        CHECK.due("signs(10, 10000) of -1000", below.signs(10, 10000), 1024);
    }

    private static void signsNoSize() {
        CHECK.sentence(17, "a number is none that is told, there is no such thing");
        FewWays x = allOf(0);
        for (int t : Edges.beyond(0, 10000)) {
            CHECK.due("signs(1, " + t + ")", x.signs(1, t), BAD);
            CHECK.due("signs(10, " + t + ")", x.signs(10, t), BAD);
        }
    }

    private static void signsAtMost() {
        CHECK.sentence(17, "of 2 to the c rows of SIGNS how many make a sum of size t at most");
        FewWays x = of(1, 2, 4);
        int[] due = {0, 2, 2, 4, 4, 6, 6, 8, 8};
        for (int t = 0; t < due.length; t++) {
            CHECK.due("signs(3, " + t + ") of 1 2 4", x.signs(3, t), due[t]);
        }
        FewWays below = of(-1, 2, -4);
        for (int t = 0; t < due.length; t++) {
            CHECK.due("signs(3, " + t + ") of -1 2 -4", below.signs(3, t), due[t]);
        }
    }

    private static void signsNoneAndAll() {
        CHECK.sentence(17, "of 2 to the c rows of SIGNS");
        FewWays x = of(1000, 1, 1);
        CHECK.due("signs(1, 999)", x.signs(1, 999), 0);
        CHECK.due("signs(1, 1000)", x.signs(1, 1000), 2);
        CHECK.due("signs(3, 997)", x.signs(3, 997), 0);
        CHECK.due("signs(3, 998)", x.signs(3, 998), 2);
        CHECK.due("signs(3, 1001)", x.signs(3, 1001), 6);
        CHECK.due("signs(3, 1002)", x.signs(3, 1002), 8);
        for (int c = 1; c <= 10; c++) {
            CHECK.due("signs(" + c + ", 0) of all 0", allOf(0).signs(c, 0), 1 << c);
        }
    }

    private static void signsOfTheFirst() {
        CHECK.sentence(17, "the first c of them");
        FewWays x = of(0, 0, 0, 0, 0, 0, 0, 0, 0, 1000);
        CHECK.due("signs(9, 0)", x.signs(9, 0), 512);
        CHECK.due("signs(10, 0)", x.signs(10, 0), 0);
        CHECK.due("signs(10, 999)", x.signs(10, 999), 0);
        CHECK.due("signs(10, 1000)", x.signs(10, 1000), 1024);
        FewWays first = of(7, 1000);
        CHECK.due("signs(1, 7)", first.signs(1, 7), 2);
        CHECK.due("signs(1, 6)", first.signs(1, 6), 0);
    }

    private static void leastLengths() {
        CHECK.sentence(18, "the first c of them (1 to 10)");
        FewWays x = of(1, 2, 4, 8, 16, 32, 64, 128, 256, 512);
        CHECK.due("least(0, 1)", x.least(0, 1), BAD);
        for (int c = 1; c <= 10; c++) {
            CHECK.due("least(" + c + ", 0)", x.least(c, 0), c == 1 ? 0 : (1 << c - 1) - 1);
            CHECK.due("least(" + c + ", 1)", x.least(c, 1), 1);
        }
        CHECK.due("least(11, 1)", x.least(11, 1), BAD);
    }

    private static void leastNoLength() {
        CHECK.sentence(18, "the size of the sum (1). BAD.");
        FewWays x = allOf(1);
        for (int c : Edges.beyond(1, 10)) {
            CHECK.due("least(" + c + ", 0)", x.least(c, 0), BAD);
            CHECK.due("least(" + c + ", 1)", x.least(c, 1), BAD);
            CHECK.due("least(" + c + ", 2)", x.least(c, 2), BAD);
        }
    }

    private static void leastWhats() {
        CHECK.sentence(18, "bits (what = 0), the size of the sum (1)");
        FewWays x = of(5, 9);
        CHECK.due("least(2, 0)", x.least(2, 0), 1);
        CHECK.due("least(2, 1)", x.least(2, 1), 4);
        CHECK.due("least(2, 2)", x.least(2, 2), BAD);
        CHECK.due("least(2, -1)", x.least(2, -1), BAD);
        for (int what : Edges.beyond(0, 1)) {
            CHECK.due("least(2, " + what + ")", x.least(2, what), BAD);
            CHECK.due("least(10, " + what + ")", x.least(10, what), BAD);
        }
    }

    private static void leastNothing() {
        CHECK.sentence(18, "of several the least bits");
        for (int c = 1; c <= 10; c++) {
            CHECK.due("least(" + c + ", 0) of all 0", new FewWays().least(c, 0), 0);
            CHECK.due("least(" + c + ", 1) of all 0", new FewWays().least(c, 1), 0);
        }
    }

    private static void leastOfSeveral() {
        CHECK.sentence(18, "of several the least bits (bit i: NUMBER i is taken off)");
        CHECK.due("least(1, 0) of -7: 7 off is as small", of(-7).least(1, 0), 0);
        CHECK.due("least(1, 0) of 7", of(7).least(1, 0), 0);
        CHECK.due("least(2, 0) of 3 3", of(3, 3).least(2, 0), 1);
        CHECK.due("least(2, 0) of 3 -3", of(3, -3).least(2, 0), 0);
        CHECK.due("least(3, 0) of 3 3 3", of(3, 3, 3).least(3, 0), 1);
        CHECK.due("least(3, 0) of 3 3 0", of(3, 3, 0).least(3, 0), 1);
        CHECK.due("least(3, 0) of 0 3 3", of(0, 3, 3).least(3, 0), 2);
        CHECK.due("least(10, 0) of all 1000", allOf(1000).least(10, 0), 31);
        CHECK.due("least(10, 1) of all 1000", allOf(1000).least(10, 1), 0);
        CHECK.due("least(9, 0) of all 1000", allOf(1000).least(9, 0), 15);
        CHECK.due("least(9, 1) of all 1000", allOf(1000).least(9, 1), 1000);
    }

    /** The first nine off against the tenth: bits above these would be those of the tenth alone. */
    private static void leastGreatestBits() {
        CHECK.sentence(18, "(bit i: NUMBER i is taken off)");
        FewWays x = of(111, 111, 111, 111, 111, 111, 111, 111, 111, 999);
        CHECK.due("least(10, 0)", x.least(10, 0), 511);
        CHECK.due("least(10, 1)", x.least(10, 1), 0);
        FewWays last = of(0, 0, 0, 0, 0, 0, 0, 0, 1000, 1000);
        CHECK.due("least(10, 0)", last.least(10, 0), 256);
        CHECK.due("least(10, 1)", last.least(10, 1), 0);
    }

    private static void leastGreatestSum() {
        CHECK.sentence(18, "a row of the least size of sum");
        CHECK.due("least(1, 1) of 1000", of(1000).least(1, 1), 1000);
        CHECK.due("least(1, 1) of -1000", of(-1000).least(1, 1), 1000);
        CHECK.due("least(10, 1) of 1000 and nines", of(1000, 9, 9, 9, 9, 9, 9, 9, 9, 9).least(10, 1), 919);
        CHECK.due("least(10, 0) of 1000 and nines", of(1000, 9, 9, 9, 9, 9, 9, 9, 9, 9).least(10, 0), 1);
        CHECK.due("least(2, 1) of 1000 -1000", of(1000, -1000).least(2, 1), 0);
        CHECK.due("least(2, 1) of 1000 -999", of(1000, -999).least(2, 1), 1);
    }

    private static void leastOfTheFirst() {
        CHECK.sentence(18, "THE SIGNS of the first c");
        FewWays x = of(7, 7, 14, 1000);
        CHECK.due("least(1, 1)", x.least(1, 1), 7);
        CHECK.due("least(2, 1)", x.least(2, 1), 0);
        CHECK.due("least(2, 0)", x.least(2, 0), 1);
        CHECK.due("least(3, 1)", x.least(3, 1), 0);
        CHECK.due("least(3, 0)", x.least(3, 0), 3);
        CHECK.due("least(4, 1)", x.least(4, 1), 972);
        CHECK.due("least(4, 0)", x.least(4, 0), 7);
    }

    private static void signsNothingChanges() {
        CHECK.sentence(17, "nothing changes then");
        FewWays x = Make.busy(6);
        String before = Make.state(x);
        for (int none : Edges.beyond(1, 10)) {
            x.signs(none, 0);
            x.signs(10, -Math.abs(none));
        }
        x.signs(10, 10000);
        CHECK.same("signs", before, x);
    }

    private static void leastNothingChanges() {
        CHECK.sentence(18, "nothing changes then");
        FewWays x = Make.busy(6);
        String before = Make.state(x);
        for (int none : Edges.beyond(1, 10)) {
            x.least(none, 0);
            x.least(10, none);
        }
        x.least(10, 0);
        x.least(1, 1);
        CHECK.same("least", before, x);
    }
}
