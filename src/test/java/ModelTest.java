/** Runs of up to 512 drawn calls each, every answer held against the model's; the draws are always the same. */
public final class ModelTest {
    private static final Check CHECK = new Check("ModelTest");
    private static final int RUNS = 240;
    private static final int MOST_CALLS = 512;
    /** A whole table: table, 15 distances, 6 cuts; and what is asked after each step. */
    private static final int MOST_CALLS_OF_A_STEP = 1 + 15 + 6 + 2;

    private final Draw draw;
    private final FewWays x = new FewWays();
    private final Model model = new Model();
    private final String run;
    private int calls;

    private ModelTest(int seed) {
        draw = new Draw(seed);
        run = "run " + seed + ": ";
    }

    public static void main(String[] args) {
        for (int seed = 1; seed <= RUNS; seed++) {
            new ModelTest(seed).go();
        }
        CHECK.end();
    }

    private void go() {
        while (calls + MOST_CALLS_OF_A_STEP <= MOST_CALLS) {
            step();
        }
    }

    private void step() {
        int kind = draw.below(28);
        if (kind == 0) {
            fill();
        } else if (kind < 8) {
            change(kind);
        } else {
            ask(kind);
        }
        int i = near(6);
        int j = near(6);
        due("at", x.at(i, j), model.at(i, j), i, j);
        due("count", x.count(), model.count());
    }

    /** Each answer is that of one call of the object. */
    private void due(String call, long got, long want, int... told) {
        calls++;
        CHECK.due(run + call + java.util.Arrays.toString(told), got, want);
    }

    /** Mostly a number from 0 on that is below the bound; now and then one beside. */
    private int near(int bound) {
        return draw.below(12) == 0 ? draw.below(bound + 4) - 2 : draw.below(bound);
    }

    private void put(int i, int j, int distance) {
        due("set", x.set(i, j, distance), model.set(i, j, distance), i, j, distance);
    }

    private void cut(int cut, int w) {
        due("add", x.add(cut, w), model.add(cut, w), cut, w);
    }

    /** A whole table of some kind: drawn, of cuts, of places in a plane, nested, or all the same. */
    private void fill() {
        int n = 2 + draw.below(5);
        due("table", x.table(n), model.table(n), n);
        int kind = draw.below(6);
        int most = 1 + draw.below(30);
        int[] a = draw.row(n, most + 1);
        int[] b = draw.row(n, most + 1);
        for (int i = 0; i < n; i++) {
            for (int j = i + 1; j < n; j++) {
                put(i, j, filled(kind, most, i, j, a, b));
            }
        }
        if (kind == 1) {
            for (int turn = 0; turn < 6; turn++) {
                cut(2 * (1 + draw.below((1 << n - 1) - 1)), draw.below(6));
            }
        }
    }

    private int filled(int kind, int most, int i, int j, int[] a, int[] b) {
        switch (kind) {
            case 0:
                return draw.below(most + 1);
            case 1:
                return 0;
            case 2:
                return Math.min(30, Math.abs(a[i] - a[j]) + Math.abs(b[i] - b[j]) / 2);
            case 3:
                return Math.abs(a[i] - a[j]);
            case 4:
                return most / 2 + draw.below(most / 2 + 1);
            default:
                return a[i] == a[j] ? b[0] / 2 : Math.max(a[i], a[j]);
        }
    }

    private void change(int kind) {
        if (kind < 5) {
            put(near(model.count()), near(model.count()), near(31));
        } else if (kind < 6) {
            cut(near(1 << model.count()), draw.below(10) == 0 ? draw.below(70) - 35 : draw.below(9) - 4);
        } else if (kind < 7) {
            int i = near(10);
            int v = draw.below(3) == 0 ? draw.below(2011) - 1005 : draw.below(61) - 30;
            due("number", x.number(i, v), model.number(i, v), i, v);
        } else if (draw.below(4) == 0) {
            int n = draw.below(9);
            due("table", x.table(n), model.table(n), n);
        }
    }

    private void ask(int kind) {
        if (kind < 14) {
            int law = near(4);
            due("law", x.law(law), model.law(law), law);
            due("breaks", x.breaks(law), model.breaks(law), law);
        } else if (kind < 17) {
            int k = near(model.count() + 1);
            due("flat", x.flat(), model.flat());
            due("ways", x.ways(), model.ways());
            due("bulk", x.bulk(k), model.bulk(k), k);
        } else if (kind < 20) {
            int cut = near(1 << model.count());
            int i = near(model.count());
            int j = near(model.count());
            due("peel", x.peel(cut), model.peel(cut), cut);
            due("left", x.left(i, j), model.left(i, j), i, j);
        } else {
            askFurther(kind);
        }
    }

    private void askFurther(int kind) {
        if (kind < 22) {
            int order = draw.below(8) == 0 ? draw.below(1 << 18) : draw.order(model.count());
            int i = near(model.count());
            int what = near(3);
            due("line", x.line(order, i, what), model.line(order, i, what), order, i, what);
        } else if (kind < 23) {
            for (int what = 0; what <= 2 && draw.below(4) == 0; what++) {
                due("best", x.best(what), model.best(what), what);
            }
        } else if (kind < 25) {
            int k = near(model.count() + 1);
            int what = near(2);
            int part = near(2);
            due("centres", x.centres(k, what, part), model.centres(k, what, part), k, what, part);
        } else if (kind < 27) {
            int c = near(11);
            int t = draw.below(3) == 0 ? near(10001) : draw.below(60);
            due("signs", x.signs(c, t), model.signs(c, t), c, t);
        } else {
            int c = near(11);
            int what = near(2);
            due("least", x.least(c, what), model.least(c, what), c, what);
        }
    }
}
