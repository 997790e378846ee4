import java.util.function.DoubleSupplier;

/** Long mixed runs, each call held against Model: all promises together. */
public final class ModelTest {
    private static final int RUNS = 1500;
    private static final int CALLS = 512;
    private static final int HUGE_RUNS = 600;

    private long seed;
    private final Checks checks = new Checks("ModelTest");
    private int above = 0;
    private int below = 0;
    private int small = 0;
    private double greatestP = 0.0;

    public static void main(String[] args) {
        ModelTest test = new ModelTest();
        for (int run = 0; run < RUNS; run++) {
            test.run(run);
        }
        for (int run = 0; run < HUGE_RUNS; run++) {
            test.hugeRun(run);
        }
        test.checks.holds("some square was reset above its bound", test.above > 0);
        test.checks.holds("some square was reset below 0.0", test.below > 0);
        test.checks.holds("some square was reset for a small m", test.small > 0);
        test.checks.holds("some square grew: " + test.greatestP, test.greatestP > 1.0e120);
        test.checks.holds("none grew so far that doubles end: " + test.greatestP, test.greatestP < 1.0e300);
        System.out.println("resets: " + test.above + " above, " + test.below + " below, " + test.small
                + " for a small m; the greatest number of a square: " + test.greatestP);
        test.checks.end();
    }

    private int next(int least, int most) {
        seed = seed * 6364136223846793005L + 1442695040888963407L;
        return least + (int) Math.floorMod(seed >>> 33, (long) (most - least + 1));
    }

    /** Mostly in range, at times an edge or just beyond one. */
    private int number(int least, int most) {
        switch (next(0, 19)) {
            case 0:
                return least;
            case 1:
                return most;
            case 2:
                return least - 1;
            case 3:
                return most + 1;
            default:
                return next(least, most);
        }
    }

    private int edge(int least, int most) {
        int which = next(0, 99);
        return which == 0 ? Integer.MIN_VALUE : which == 1 ? Integer.MAX_VALUE : number(least, most);
    }

    private void run(int run) {
        seed = run * 7919L + 17;
        EchoBench bench = new EchoBench();
        Model model = new Model();
        // Runs differ in how loud they are: quiet ones bring squares to their upper bound.
        int loud = new int[] {1000, 1000, 10, 2, 1, 0}[run % 6];
        for (int call = 0; call < CALLS; call++) {
            one("run " + run + " call " + call, bench, model, loud);
        }
        count(model);
    }

    /** Other filters beside one whose square grows while x is 0, and what comes behind that. */
    private void hugeRun(int run) {
        seed = run * 104729L + 5;
        EchoBench bench = new EchoBench();
        Model model = new Model();
        bench.filter(EchoBench.RLS, 2, FlatSquare.FIRST_STEP);
        model.filter(EchoBench.RLS, 2, FlatSquare.FIRST_STEP);
        String where = "huge run " + run;
        FlatSquare.reach(step -> same(where, () -> bench.step(0, step), () -> model.step(0, step)),
                x -> same(where, () -> bench.feed(x, 0), () -> model.feed(x, 0)));
        int zeros = next(0, 420);
        for (int sample = 0; sample < zeros; sample++) {
            same(where, () -> bench.feed(0, 0), () -> model.feed(0, 0));
        }
        same(where, () -> bench.square(0, 0, 1), () -> model.square(0, 0, 1));
        int loud = new int[] {1000, 10, 1, 0}[run % 4];
        for (int call = 57 + zeros; call < CALLS; call++) {
            one(where + " call " + call, bench, model, loud);
        }
        count(model);
    }

    private void count(Model model) {
        for (Model.Learner learner : model.learners) {
            above += learner.resetsAbove;
            below += learner.resetsBelow;
            small += learner.resetsSmall;
        }
        greatestP = Math.max(greatestP, model.greatestP);
    }

    private void one(String where, EchoBench bench, Model model, int loud) {
        int which = next(0, 39);
        int filter = edge(0, Math.max(0, model.learners.size() - 1));
        if (which < 2) {
            int place = edge(0, 7);
            int told = edge(-1000, 1000);
            same(where + " path", () -> bench.path(place, told), () -> model.path(place, told));
        } else if (which < 5) {
            int kind = edge(0, 3);
            int taps = edge(1, kind == 3 ? 4 : 8);
            int step = kind == 3 ? edge(500, 1000) : next(0, 2) == 0 ? edge(1, 2000) : edge(1, 20);
            same(where + " filter", () -> bench.filter(kind, taps, step), () -> model.filter(kind, taps, step));
        } else if (which == 5) {
            int step = next(0, 1) == 0 ? edge(500, 1000) : edge(1, 2000);
            same(where + " step", () -> bench.step(filter, step), () -> model.step(filter, step));
        } else if (which == 6) {
            int told = next(0, 2) == 0 ? 0 : edge(0, 1000);
            int tail = edge(0, 20);
            same(where + " watch", () -> nothing(() -> bench.watch(filter, told, tail)),
                    () -> nothing(() -> model.watch(filter, told, tail)));
        } else if (which == 7 && next(0, 3) == 0) {
            same(where + " begin", () -> nothing(() -> bench.begin(filter)), () -> nothing(() -> model.begin(filter)));
        } else if (which < 20) {
            int x = edge(-loud, loud);
            int talk = next(0, 2) == 0 ? edge(-1000, 1000) : 0;
            same(where + " feed", () -> bench.feed(x, talk), () -> model.feed(x, talk));
        } else if (which < 22 && loud > 1) {
            int v = edge(0, 2000);
            int many = next(0, 4) == 0 ? edge(1, 100) : edge(1, 8);
            same(where + " script", () -> bench.script(v, many), () -> model.script(v, many));
        } else {
            ask(where, bench, model, filter);
        }
    }

    private void ask(String where, EchoBench bench, Model model, int filter) {
        int what = edge(0, 3);
        int tap = edge(0, 7);
        int row = next(0, 9) == 0 ? edge(0, 7) : next(0, 3);
        int column = next(0, 9) == 0 ? edge(0, 7) : next(0, 3);
        switch (next(0, 6)) {
            case 0:
                same(where + " weight", () -> bench.weight(filter, tap), () -> model.weight(filter, tap));
                break;
            case 1:
                same(where + " of " + what, () -> bench.of(filter, what), () -> model.of(filter, what));
                break;
            case 2:
                same(where + " count " + what, () -> bench.count(filter, what), () -> model.count(filter, what));
                break;
            case 3:
                same(where + " microphone", bench::microphone, model::microphone);
                break;
            case 4:
                int which = edge(0, 1);
                same(where + " batch", () -> bench.batch(which), () -> model.batch(which));
                break;
            case 5:
                same(where + " square", () -> bench.square(filter, row, column),
                        () -> model.square(filter, row, column));
                break;
            default:
                same(where + " best", bench::best, model::best);
                break;
        }
    }

    private static double nothing(Runnable call) {
        call.run();
        return 0.0;
    }

    private void same(String what, DoubleSupplier got, DoubleSupplier due) {
        Object gotAnswer = answer(got);
        Object dueAnswer = answer(due);
        if (gotAnswer instanceof Double && dueAnswer instanceof Double) {
            checks.same(what, (Double) gotAnswer, (Double) dueAnswer);
        } else {
            checks.sameText(what, gotAnswer.toString(), dueAnswer.toString());
        }
    }

    private static Object answer(DoubleSupplier call) {
        try {
            return call.getAsDouble();
        } catch (RuntimeException e) {
            return e.getClass().getName();
        }
    }
}
