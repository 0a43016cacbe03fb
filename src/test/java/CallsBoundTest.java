import java.util.function.ToLongFunction;

/** The last call that an object is used for, the 512th, is as good as the first: each promise. */
public final class CallsBoundTest {
    private static final Check CHECK = new Check("CallsBoundTest");
    private static final int MOST_CALLS = 512;
    /** What Make.busy(6) calls. */
    private static final int CALLS_OF_BUSY = 1 + 15 + 10;

    public static void main(String[] args) {
        newAfterAll();
        lastCalls();
        lastCallOfOneKind();
        CHECK.end(1, 2, 3, 4, 5, 6, 7, 8, 9, 10, 11, 12, 13, 14, 15, 16, 17, 18, 19);
    }

    private static void newAfterAll() {
        CHECK.sentence(1, "2 at first");
        String first = Make.state(new FewWays());
        used();
        CHECK.same("what another object was asked", first, new FewWays());
    }

    private static void lastCalls() {
        Model model = Model.of(Make.busy(6));
        last(2, "table(6)", x -> x.table(6), 6);
        last(2, "table(7)", x -> x.table(7), -1);
        last(3, "set(4, 5, 30)", x -> x.set(4, 5, 30), model.at(4, 5));
        last(3, "set(4, 5, 31)", x -> x.set(4, 5, 31), -1);
        last(4, "at(4, 5)", x -> x.at(4, 5), model.at(4, 5));
        last(4, "at(4, 6)", x -> x.at(4, 6), -1);
        last(5, "law(2)", x -> x.law(2), model.law(2));
        last(5, "law(3)", x -> x.law(3), model.law(3));
        last(6, "breaks(2)", x -> x.breaks(2), model.breaks(2));
        last(6, "breaks(3)", x -> x.breaks(3), model.breaks(3));
        last(7, "flat()", FewWays::flat, model.flat());
        last(8, "ways()", FewWays::ways, model.ways());
        last(9, "bulk(6)", x -> x.bulk(6), model.bulk(6));
        last(9, "bulk(7)", x -> x.bulk(7), -2000000000000000000L);
        last(10, "add(62, 1)", x -> x.add(62, 1), 0);
        last(10, "add(62, 30)", x -> x.add(62, 30), -2);
        last(11, "peel(62)", x -> x.peel(62), model.peel(62));
        last(12, "left(0, 5)", x -> x.left(0, 5), model.left(0, 5));
        last(13, "line(181896, 5, 0)", x -> x.line(181896, 5, 0), model.line(181896, 5, 0));
        last(14, "best(0)", x -> x.best(0), model.best(0));
        last(15, "centres(3, 1, 0)", x -> x.centres(3, 1, 0), model.centres(3, 1, 0));
        last(16, "number(9, 1)", x -> x.number(9, 1), 93);
        last(17, "signs(10, 10000)", x -> x.signs(10, 10000), 1024);
        last(18, "least(1, 1)", x -> x.least(1, 1), 60);
        last(19, "count()", FewWays::count, 6);
    }

    /** All other calls before it only ask or are refused, so that the table stays as it was made. */
    private static void last(int promise, String call, ToLongFunction<FewWays> asked, long due) {
        CHECK.sentence(promise, "An object is used for at most 512 calls after it has been made");
        CHECK.due(call + " as the last call", asked.applyAsLong(used()), due);
    }

    private static FewWays used() {
        FewWays x = Make.busy(6);
        for (int calls = CALLS_OF_BUSY; calls < MOST_CALLS - 1; calls++) {
            ask(x, calls % 22);
        }
        return x;
    }

    private static void ask(FewWays x, int kind) {
        switch (kind) {
            case 0, 1, 2, 3, 4, 5 -> x.law(kind);
            case 6 -> x.breaks(3);
            case 7 -> x.flat();
            case 8 -> x.ways();
            case 9 -> x.bulk(6);
            case 10 -> x.add(62, 30);
            case 11 -> x.peel(62);
            case 12 -> x.left(0, 5);
            case 13 -> x.line(5349, 0, 0);
            case 14 -> x.best(0);
            case 15 -> x.centres(3, 0, 1);
            case 16 -> x.number(9, 1001);
            case 17 -> x.signs(10, 500);
            case 18 -> x.least(10, 1);
            case 19 -> x.table(7);
            case 20 -> x.set(0, 1, 31);
            default -> x.at(5, 4);
        }
    }

    /** The dearest calls, and those that change something, 512 times on one object. */
    private static void lastCallOfOneKind() {
        same(2, "table(6)", x -> x.table(6), 6, 6);
        same(3, "set(0, 1, 30)", x -> x.set(0, 1, 30), 1, 30);
        same(5, "law(3)", x -> x.law(3), -4, -4);
        same(6, "breaks(3)", x -> x.breaks(3), 0, 0);
        same(11, "peel(2)", x -> x.peel(2), 2, 2);
        same(14, "best(0)", x -> x.best(0), 8, 8);
        same(16, "number(9, -1000)", x -> x.number(9, -1000), 0, -1000);
        same(18, "least(10, 1)", x -> x.least(10, 1), 0, 0);
        FewWays x = Make.even(2, 0);
        CHECK.sentence(10, "An object is used for at most 512 calls after it has been made");
        for (int calls = 2; calls < MOST_CALLS; calls += 2) {
            CHECK.due("add(2, 30)", x.add(2, 30), 0);
            CHECK.due("add(2, -30)", x.add(2, -30), 0);
        }
    }

    private static void same(int promise, String call, ToLongFunction<FewWays> asked, long first, long due) {
        CHECK.sentence(promise, "An object is used for at most 512 calls after it has been made");
        FewWays x = new FewWays();
        CHECK.due(call + " as the first call", asked.applyAsLong(x), first);
        for (int calls = 2; calls <= MOST_CALLS; calls++) {
            CHECK.due(call + " as call " + calls, asked.applyAsLong(x), due);
        }
    }
}
