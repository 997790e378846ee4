import java.util.function.DoubleSupplier;

/** Long mixed runs, each call held against Model: all promises together. */
public final class ModelTest {
    private static final int RUNS = 1500;
    private static final int CALLS = 512;
    private static final int HUGE_RUNS = 600;
    private static final int ENDING_RUNS = 600;

    private long seed;
    private final Checks checks = new Checks("ModelTest");
    private int above = 0;
    private int below = 0;
    private int small = 0;
    private double greatestP = 0.0;
    private int infinite = 0;
    private int nan = 0;

    public static void main(String[] args) {
        ModelTest test = new ModelTest();
        for (int run = 0; run < RUNS; run++) {
            test.run(run);
        }
        for (int run = 0; run < HUGE_RUNS; run++) {
            test.hugeRun(run);
        }
        test.checks.holds("some square grew: " + test.greatestP, test.greatestP > 1.0e120);
        test.checks.same("none grew so far yet that doubles end", test.infinite + test.nan, 0);
        for (int run = 0; run < ENDING_RUNS; run++) {
            test.endingRun(run);
        }
        test.checks.holds("some square was infinite", test.infinite > 0);
        test.checks.holds("some square was NaN", test.nan > 0 && test.nan < ENDING_RUNS);
        test.checks.holds("some square was reset above its bound", test.above > 0);
        test.checks.holds("some square was reset below 0.0", test.below > 0);
        test.checks.holds("some square was reset for a small m", test.small > 0);
        System.out.println("resets: " + test.above + " above, " + test.below + " below, " + test.small
                + " for a small m; runs with a square that was infinite: " + test.infinite + ", or NaN: " + test.nan);
        test.checks.end();
    }

    private int next(int least, int most) {
        seed = seed * 6364136223846793005L + 1442695040888963407L;
        return least + (int) Math.floorMod(seed >>> 33, (long) (most - least + 1));
    }

    /** Mostly in range, at times an edge or just beyond one. */
    private int number(int least, int most) {
        switch (next(0, 19)) {
            case 0:
                return least;
            case 1:
                return most;
            case 2:
                return least - 1;
            case 3:
                return most + 1;
            default:
                return next(least, most);
        }
    }

    private int edge(int least, int most) {
        int which = next(0, 99);
        return which == 0 ? Integer.MIN_VALUE : which == 1 ? Integer.MAX_VALUE : number(least, most);
    }

    private void run(int run) {
        seed = run * 7919L + 17;
        EchoBench bench = new EchoBench();
        Model model = new Model();
        // Runs differ in how loud they are: quiet ones bring squares to their upper bound.
        int loud = new int[] {1000, 1000, 10, 2, 1, 0}[run % 6];
        for (int call = 0; call < CALLS; call++) {
            one("run " + run + " call " + call, bench, model, loud);
        }
        count(model);
    }

    /** Other filters beside one whose square grows while x is 0, and what comes behind that. */
    private void hugeRun(int run) {
        seed = run * 104729L + 5;
        EchoBench bench = new EchoBench();
        Model model = new Model();
        bench.filter(EchoBench.RLS, 2, FlatSquare.FIRST_STEP);
        model.filter(EchoBench.RLS, 2, FlatSquare.FIRST_STEP);
        String where = "huge run " + run;
        FlatSquare.reach(step -> same(where, () -> bench.step(0, step), () -> model.step(0, step)),
                x -> same(where, () -> bench.feed(x, 0), () -> model.feed(x, 0)));
        int zeros = next(0, 420);
        for (int sample = 0; sample < zeros; sample++) {
            same(where, () -> bench.feed(0, 0), () -> model.feed(0, 0));
        }
        same(where, () -> bench.square(0, 0, 1), () -> model.square(0, 0, 1));
        int loud = new int[] {1000, 10, 1, 0}[run % 4];
        for (int call = 57 + zeros; call < CALLS; call++) {
            one(where + " call " + call, bench, model, loud);
        }
        count(model);
    }

    /** A square that doubles until doubles end, and, near that end, other samples and calls. */
    private void endingRun(int run) {
        seed = run * 15485863L + 3;
        EchoBench bench = new EchoBench();
        Model model = new Model();
        String where = "ending run " + run;
        DoublingSquare.makeFilter(bench);
        model.filter(EchoBench.RLS, 4, DoublingSquare.STEP);
        model.watch(0, 1, 0);
        DoublingSquare.reach((x, talk) -> fed(where, bench, model, x, talk));
        int scripts = next(DoublingSquare.LAST_SCRIPTS - 9, DoublingSquare.LAST_SCRIPTS + 1);
        for (int script = 0; script < scripts; script++) {
            same(where, () -> bench.script(DoublingSquare.V, 3), () -> model.script(DoublingSquare.V, 3));
        }
        whole(where, bench, model);
        int held = next(0, 6);
        for (int sample = 0; sample < held; sample++) {
            fed(where, bench, model, next(0, 1) * next(-1000, 1000), 1000);
        }
        if (next(0, 2) > 0) {
            same(where, () -> nothing(() -> bench.watch(0, 0, 0)), () -> nothing(() -> model.watch(0, 0, 0)));
        }
        int zeros = next(0, 12);
        for (int sample = 0; sample < zeros; sample++) {
            fed(where, bench, model, 0, 0);
        }
        fed(where, bench, model, next(-9, 9), next(-3, 3));
        whole(where, bench, model);
        int loud = new int[] {1000, 10, 1, 0}[run % 4];
        for (int call = DoublingSquare.CALLS + scripts + held + zeros + 2; call < CALLS; call++) {
            one(where + " call " + call, bench, model, loud);
        }
        whole(where, bench, model);
        count(model);
    }

    private int fed(String where, EchoBench bench, Model model, int x, int talk) {
        same(where + " feed", () -> bench.feed(x, talk), () -> model.feed(x, talk));
        return 0;
    }

    /** Questions beyond the 512 calls of a run, as they change nothing. */
    private void whole(String where, EchoBench bench, Model model) {
        for (int place = 0; place < 16; place++) {
            int row = place / 4;
            int column = place % 4;
            same(where + " P", () -> bench.square(0, row, column), () -> model.square(0, row, column));
            same(where + " weight", () -> bench.weight(0, row), () -> model.weight(0, row));
            same(where + " of", () -> bench.of(0, row), () -> model.of(0, row));
            same(where + " count", () -> bench.count(0, row), () -> model.count(0, row));
        }
        same(where + " best", bench::best, model::best);
    }

    private void count(Model model) {
        for (Model.Learner learner : model.learners) {
            above += learner.resetsAbove;
            below += learner.resetsBelow;
            small += learner.resetsSmall;
        }
        greatestP = Math.max(greatestP, model.greatestP);
        infinite += model.greatestP == Double.POSITIVE_INFINITY ? 1 : 0;
        nan += model.metNaN ? 1 : 0;
    }

    private void one(String where, EchoBench bench, Model model, int loud) {
        int which = next(0, 39);
        int filter = edge(0, Math.max(0, model.learners.size() - 1));
        if (which < 2) {
            int place = edge(0, 7);
            int told = edge(-1000, 1000);
            same(where + " path", () -> bench.path(place, told), () -> model.path(place, told));
        } else if (which < 5) {
            int kind = edge(0, 3);
            int taps = edge(1, kind == 3 ? 4 : 8);
            int step = kind == 3 ? edge(500, 1000) : next(0, 2) == 0 ? edge(1, 2000) : edge(1, 20);
            same(where + " filter", () -> bench.filter(kind, taps, step), () -> model.filter(kind, taps, step));
        } else if (which == 5) {
            int step = next(0, 1) == 0 ? edge(500, 1000) : edge(1, 2000);
            same(where + " step", () -> bench.step(filter, step), () -> model.step(filter, step));
        } else if (which == 6) {
            int told = next(0, 2) == 0 ? 0 : edge(0, 1000);
            int tail = edge(0, 20);
            same(where + " watch", () -> nothing(() -> bench.watch(filter, told, tail)),
                    () -> nothing(() -> model.watch(filter, told, tail)));
        } else if (which == 7 && next(0, 3) == 0) {
            same(where + " begin", () -> nothing(() -> bench.begin(filter)), () -> nothing(() -> model.begin(filter)));
        } else if (which < 20) {
            int x = edge(-loud, loud);
            int talk = next(0, 2) == 0 ? edge(-1000, 1000) : 0;
            same(where + " feed", () -> bench.feed(x, talk), () -> model.feed(x, talk));
        } else if (which < 22 && loud > 1) {
            int v = edge(0, 2000);
            int many = next(0, 4) == 0 ? edge(1, 100) : edge(1, 8);
            same(where + " script", () -> bench.script(v, many), () -> model.script(v, many));
        } else {
            ask(where, bench, model, filter);
        }
    }

    private void ask(String where, EchoBench bench, Model model, int filter) {
        int what = edge(0, 3);
        int tap = edge(0, 7);
        int row = next(0, 9) == 0 ? edge(0, 7) : next(0, 3);
        int column = next(0, 9) == 0 ? edge(0, 7) : next(0, 3);
        switch (next(0, 6)) {
            case 0:
                same(where + " weight", () -> bench.weight(filter, tap), () -> model.weight(filter, tap));
                break;
            case 1:
                same(where + " of " + what, () -> bench.of(filter, what), () -> model.of(filter, what));
                break;
            case 2:
                same(where + " count " + what, () -> bench.count(filter, what), () -> model.count(filter, what));
                break;
            case 3:
                same(where + " microphone", bench::microphone, model::microphone);
                break;
            case 4:
                int which = edge(0, 1);
                same(where + " batch", () -> bench.batch(which), () -> model.batch(which));
                break;
            case 5:
                same(where + " square", () -> bench.square(filter, row, column),
                        () -> model.square(filter, row, column));
                break;
            default:
                same(where + " best", bench::best, model::best);
                break;
        }
    }

    private static double nothing(Runnable call) {
        call.run();
        return 0.0;
    }

    private void same(String what, DoubleSupplier got, DoubleSupplier due) {
        Object gotAnswer = answer(got);
        Object dueAnswer = answer(due);
        if (gotAnswer instanceof Double && dueAnswer instanceof Double) {
            checks.same(what, (Double) gotAnswer, (Double) dueAnswer);
        } else {
            checks.sameText(what, gotAnswer.toString(), dueAnswer.toString());
        }
    }

    private static Object answer(DoubleSupplier call) {
        try {
            return call.getAsDouble();
        } catch (RuntimeException e) {
            return e.getClass().getName();
        }
    }
}
