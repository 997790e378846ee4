import java.util.function.IntBinaryOperator;

/**
 * The run of the shared tests EchoBenchWeightRun and EchoBenchResetRun: of the square of a
 * filter (RLS, 4 taps, step 500, watched by 1) rows 1 and 3 become (b, 0, 0, -b) and
 * (b, b, b, 0), and the others stay small. At the x of each script(V, 3) those two rows make 0,
 * so b doubles at each sample, and no reset comes until doubles end.
 */
final class DoublingSquare {
    static final int STEP = 500;
    static final int V = 529;
    /** The calls up to where b is FIRST_B. */
    static final int CALLS = 84;
    static final double FIRST_B = 1.0 / 2048.0;
    /** Behind as many scripts b is still a double, and behind one more P is all NaN. */
    static final int LAST_SCRIPTS = 342;
    /** The x of script(V, 3); their sum is 0. */
    static final int[] XS = {-298, 913, -615};

    private static final int ZEROS = 11;
    private static final int LOUD = 1000;
    /** The x from the twelfth sample on; of these four the filter holds at three, so P stays as it is. */
    private static final int[] SHAPING = {532, 844, 594, -364, -615, 62, -17, 827, -304, -841, -81, -539,
        977, 16, -164, -941, 189, 338, 60, 103, 689, 640, -98, 63};
    private static final int[] SHAPING_MORE = {679, -953, -810, -940, -880, 931, 970, 955, 884, 882, 788, -978,
        -488, 702, 448, 862, -840, -702, 312, -222, 9, 952, -951, -246};
    /** Pairs: x and talk. */
    private static final int[] BEHIND = {913, LOUD, -615, LOUD, -298, LOUD, 913, 0, -615, 0, -298, 0, 913, 0,
        -615, 0, -298, 0, 913, LOUD, -615, 0, -298, LOUD, 913, 0, -615, LOUD};

    private DoublingSquare() {
    }

    static void reach(IntBinaryOperator feed) {
        feedZeros(feed, ZEROS, 0);
        shape(feed, SHAPING);
        feedZeros(feed, 3, LOUD);
        feedZeros(feed, 6, 0);
        shape(feed, SHAPING_MORE);
        for (int at = 0; at < BEHIND.length; at += 2) {
            feed.applyAsInt(BEHIND[at], BEHIND[at + 1]);
        }
    }

    private static void feedZeros(IntBinaryOperator feed, int many, int talk) {
        for (int sample = 0; sample < many; sample++) {
            feed.applyAsInt(0, talk);
        }
    }

    private static void shape(IntBinaryOperator feed, int[] xs) {
        for (int at = 0; at < xs.length; at++) {
            feed.applyAsInt(xs[at], at % 4 == 3 ? 0 : LOUD);
        }
    }

    /** Answers the filter's number. */
    static int makeFilter(EchoBench bench) {
        int filter = bench.filter(EchoBench.RLS, 4, STEP);
        bench.watch(filter, 1, 0);
        return filter;
    }

    /** The bench behind so many calls of script(V, 3). */
    static EchoBench bench(int scripts) {
        EchoBench bench = new EchoBench();
        makeFilter(bench);
        reach(bench::feed);
        grow(bench, scripts);
        return bench;
    }

    static void grow(EchoBench bench, int scripts) {
        for (int script = 0; script < scripts; script++) {
            bench.script(V, 3);
        }
    }
}
