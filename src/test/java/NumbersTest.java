/** Promises 16 to 18: number, signs, least. */
public final class NumbersTest {
    private static final Check CHECK = new Check("NumbersTest");

    public static void main(String[] args) {
        numbers();
        wrongNumbers();
        allNothing();
        oneNumber();
        smallSums();
        greatest();
        leastBits();
        wrongCalls();
        CHECK.end();
    }

    private static FewWays of(int... numbers) {
        FewWays x = new FewWays();
        for (int i = 0; i < numbers.length; i++) {
            x.number(i, numbers[i]);
        }
        return x;
    }

    private static void numbers() {
        FewWays x = new FewWays();
        for (int i = 0; i < 10; i++) {
            CHECK.due("number(" + i + ", ..)", x.number(i, i * 100 + 100), 0);
        }
        for (int i = 0; i < 10; i++) {
            CHECK.due("number(" + i + ", -1000)", x.number(i, -1000), i * 100 + 100);
        }
        CHECK.due("number(9, 1000)", x.number(9, 1000), -1000);
        CHECK.due("number(0, 0)", x.number(0, 0), -1000);
        CHECK.due("number(0, 1)", x.number(0, 1), 0);
    }

    private static void wrongNumbers() {
        FewWays x = of(1, 2, 3, 4, 5, 6, 7, 8, 9, 10);
        int[] wrongPlaces = {Integer.MIN_VALUE, -10, -1, 10, 11, Integer.MAX_VALUE};
        for (int i : wrongPlaces) {
            CHECK.due("number(" + i + ", 0)", x.number(i, 0), -10000);
        }
        int[] wrongValues = {Integer.MIN_VALUE, -10000, -1001, 1001, Integer.MAX_VALUE};
        for (int v : wrongValues) {
            CHECK.due("number(4, " + v + ")", x.number(4, v), -10000);
        }
        for (int i = 0; i < 10; i++) {
            CHECK.due("a wrong number changes nothing", x.number(i, 0), i + 1);
        }
    }

    private static void allNothing() {
        FewWays x = new FewWays();
        for (int c = 1; c <= 10; c++) {
            CHECK.due("signs(" + c + ", 0)", x.signs(c, 0), 1 << c);
            CHECK.due("signs(" + c + ", 10000)", x.signs(c, 10000), 1 << c);
            CHECK.due("least(" + c + ", 0)", x.least(c, 0), 0);
            CHECK.due("least(" + c + ", 1)", x.least(c, 1), 0);
        }
    }

    private static void oneNumber() {
        FewWays x = of(-7, 1000);
        CHECK.due("signs(1, 6)", x.signs(1, 6), 0);
        CHECK.due("signs(1, 7)", x.signs(1, 7), 2);
        CHECK.due("least(1, 0)", x.least(1, 0), 0);
        CHECK.due("least(1, 1)", x.least(1, 1), 7);
    }

    private static void smallSums() {
        FewWays x = of(1, 2, 4);
        for (int t = 0; t <= 8; t++) {
            CHECK.due("signs(3, " + t + ")", x.signs(3, t), (t + 1) / 2 * 2 > 8 ? 8 : (t + 1) / 2 * 2);
        }
        CHECK.due("least(3, 0)", x.least(3, 0), 3);
        CHECK.due("least(3, 1)", x.least(3, 1), 1);
        CHECK.due("least(2, 0)", x.least(2, 0), 1);
        CHECK.due("least(2, 1)", x.least(2, 1), 1);
    }

    private static void greatest() {
        FewWays x = of(1000, 1000, 1000, 1000, 1000, -1000, -1000, -1000, -1000, -1000);
        CHECK.due("signs(10, 0)", x.signs(10, 0), 252);
        CHECK.due("signs(10, 1999)", x.signs(10, 1999), 252);
        CHECK.due("signs(10, 2000)", x.signs(10, 2000), 252 + 2 * 210);
        CHECK.due("signs(10, 9999)", x.signs(10, 9999), 1022);
        CHECK.due("signs(10, 10000)", x.signs(10, 10000), 1024);
        CHECK.due("least(10, 0)", x.least(10, 0), 0);
        CHECK.due("least(9, 0)", x.least(9, 0), 0);
        CHECK.due("least(9, 1)", x.least(9, 1), 1000);
        FewWays last = of(0, 0, 0, 0, 0, 0, 0, 0, 1000, 1000);
        CHECK.due("least(10, 0)", last.least(10, 0), 256);
        CHECK.due("least(10, 1)", last.least(10, 1), 0);
        CHECK.due("signs(10, 0)", last.signs(10, 0), 512);
    }

    private static void leastBits() {
        FewWays x = of(3, 3, 3);
        CHECK.due("least(3, 0)", x.least(3, 0), 1);
        CHECK.due("least(3, 1)", x.least(3, 1), 3);
        FewWays apart = of(5, -3, 8, 13);
        CHECK.due("least(4, 0)", apart.least(4, 0), 5);
        CHECK.due("least(4, 1)", apart.least(4, 1), 3);
        FewWays below = of(-2, -3);
        CHECK.due("least(2, 0)", below.least(2, 0), 1);
        CHECK.due("least(2, 1)", below.least(2, 1), 1);
    }

    private static void wrongCalls() {
        FewWays x = of(1, 2, 4);
        int[] wrongLengths = {Integer.MIN_VALUE, -1, 0, 11, 32, 33, Integer.MAX_VALUE};
        for (int c : wrongLengths) {
            CHECK.due("signs(" + c + ", 0)", x.signs(c, 0), FewWays.BAD);
            CHECK.due("least(" + c + ", 0)", x.least(c, 0), FewWays.BAD);
        }
        int[] wrongSizes = {Integer.MIN_VALUE, -1, 10001, Integer.MAX_VALUE};
        for (int t : wrongSizes) {
            CHECK.due("signs(3, " + t + ")", x.signs(3, t), FewWays.BAD);
        }
        int[] wrongWhats = {Integer.MIN_VALUE, -1, 2, Integer.MAX_VALUE};
        for (int what : wrongWhats) {
            CHECK.due("least(3, " + what + ")", x.least(3, what), FewWays.BAD);
        }
        CHECK.due("number(2, 0)", x.number(2, 0), 4);
    }
}
