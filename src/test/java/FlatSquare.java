import java.util.function.IntConsumer;

/**
 * A run, found by trying, behind which the square of filter 0 (RLS, 2 taps, made with step 752)
 * has a diagonal of 0.0 and other numbers beside it: while x is 0 no reset comes, and those grow.
 */
final class FlatSquare {
    static final int FIRST_STEP = 752;
    static final double P01 = 5.7220458984375E-6;
    static final double P10 = -4.4140033423900604E-6;
    /** Pairs: a step that is told, 0 for none, and the x that is fed behind it. */
    private static final int[] BEFORE = {0, -5, 500, -7};
    private static final int[] BEHIND = {927, -373, 577, -373, 505, -373, 874, -373, 500, -373, 0, -373, 0, -373,
        906, -373, 695, -373, 628, -373, 500, 512, 0, 0};

    private FlatSquare() {
    }

    static void reach(IntConsumer step, IntConsumer feed) {
        tell(BEFORE, step, feed);
        for (int sample = 0; sample < 31; sample++) {
            feed.accept(-373);
        }
        tell(BEHIND, step, feed);
    }

    static EchoBench bench() {
        EchoBench bench = new EchoBench();
        bench.filter(EchoBench.RLS, 2, FIRST_STEP);
        reach(step -> bench.step(0, step), x -> bench.feed(x, 0));
        return bench;
    }

    private static void tell(int[] pairs, IntConsumer step, IntConsumer feed) {
        for (int at = 0; at < pairs.length; at += 2) {
            if (pairs[at] != 0) {
                step.accept(pairs[at]);
            }
            feed.accept(pairs[at + 1]);
        }
    }
}
