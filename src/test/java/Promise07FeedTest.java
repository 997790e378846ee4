/** Promise 7: feed, and how each kind of filter learns. */
public final class Promise07FeedTest {
    private static final Checks checks = new Checks("promise 7");

    public static void main(String[] args) {
        countsSamples();
        learnsByMeanSquares();
        learnsNormalised();
        learnsBySigns();
        learnsRecursively();
        holdsWeightsToTheirBound();
        resetsASquareAboveItsBound();
        resetsASquareBelowZero();
        resetsASquareForASmallM();
        boundsNothingBesideTheDiagonal();
        learnsFromAHugeSquare();
        keepsEightX();
        refuses();
        refusesTheFarthest();
        checks.end();
    }

    private static void countsSamples() {
        EchoBench bench = new EchoBench();
        checks.same("first", bench.feed(-1000, -1000), 1);
        checks.same("second", bench.feed(1000, 1000), 2);
        bench.script(0, 5);
        checks.same("behind a script", bench.feed(0, 0), 8);
    }

    private static void learnsByMeanSquares() {
        EchoBench bench = new EchoBench();
        bench.filter(EchoBench.LMS, 2, 250);
        bench.feed(2, 12);
        checks.same("weight 0", bench.weight(0, 0), 0.25 * 12.0 * 2.0);
        checks.same("weight 1", bench.weight(0, 1), 0.0);
        bench.feed(-4, 1);
        checks.same("output", bench.of(0, 0), -24.0);
        checks.same("error", bench.of(0, 1), 25.0);
        checks.same("weight 0", bench.weight(0, 0), 6.0 + 0.25 * 25.0 * -4.0);
        checks.same("weight 1", bench.weight(0, 1), 0.25 * 25.0 * 2.0);
    }

    private static void learnsNormalised() {
        EchoBench bench = new EchoBench();
        bench.filter(EchoBench.NORMAL, 2, 1500);
        bench.feed(3, 10);
        checks.same("weight 0", bench.weight(0, 0), 1.5 * 10.0 * 3.0 / 10.0);
        bench.feed(2, 2);
        double error = 2.0 - 9.0;
        checks.same("error", bench.of(0, 1), error);
        checks.same("weight 0", bench.weight(0, 0), 4.5 + 1.5 * error * 2.0 / 14.0);
        checks.same("weight 1", bench.weight(0, 1), 1.5 * error * 3.0 / 14.0);
        double before = bench.weight(0, 0);
        bench.feed(1, 0);
        checks.same("x 2 is left out", bench.weight(0, 0), before + 1.5 * bench.of(0, 1) * 1.0 / (1.0 + 1.0 + 4.0));
    }

    private static void learnsBySigns() {
        EchoBench bench = new EchoBench();
        bench.filter(EchoBench.SIGN, 2, 500);
        bench.feed(4, 900);
        checks.same("error above 0", bench.weight(0, 0), 2.0);
        bench.feed(-6, -900);
        checks.same("error below 0, weight 0", bench.weight(0, 0), 2.0 + 3.0);
        checks.same("error below 0, weight 1", bench.weight(0, 1), -2.0);
        bench.feed(2, 22);
        checks.same("no error", bench.of(0, 1), 0.0);
        checks.same("no error, weight 0", bench.weight(0, 0), 5.0);
        checks.same("no error, weight 1", bench.weight(0, 1), -2.0);

        EchoBench small = new EchoBench();
        small.filter(EchoBench.SIGN, 1, 1000);
        small.path(0, 1);
        small.feed(1, 0);
        checks.same("a small error above 0", small.weight(0, 0), 1.0);
        small.path(0, 99);
        small.feed(1, 0);
        checks.same("a small error below 0", small.weight(0, 0), 0.0);
    }

    private static void learnsRecursively() {
        EchoBench bench = new EchoBench();
        bench.filter(EchoBench.RLS, 1, 500);
        bench.filter(EchoBench.RLS, 2, 1000);
        bench.feed(3, 10);
        double m = 0.5 + 3.0 * 300.0;
        checks.same("weight", bench.weight(0, 0), 300.0 / m * 10.0);
        checks.same("square", bench.square(0, 0, 0), (100.0 - 300.0 / m * 300.0) / 0.5);
        bench.feed(-1, 4);
        double w = 300.0 / 901.0 * 10.0;
        double p = (100.0 - 300.0 / 901.0 * 300.0) / 1.0;
        double g0 = p * -1.0;
        double g1 = 100.0 * 3.0;
        double both = 1.0 + g0 * -1.0 + g1 * 3.0;
        double error = 4.0 - w * -1.0;
        checks.same("error", bench.of(1, 1), error);
        checks.same("weight 0", bench.weight(1, 0), w + g0 / both * error);
        checks.same("weight 1", bench.weight(1, 1), g1 / both * error);
        checks.same("square 0 0", bench.square(1, 0, 0), p - g0 / both * g0);
        checks.same("square 0 1", bench.square(1, 0, 1), -(g0 / both * g1));
        checks.same("square 1 0", bench.square(1, 1, 0), -(g1 / both * g0));
        checks.same("square 1 1", bench.square(1, 1, 1), 100.0 - g1 / both * g1);
    }

    private static void holdsWeightsToTheirBound() {
        EchoBench bench = new EchoBench();
        bench.filter(EchoBench.LMS, 1, 2000);
        bench.feed(1000, 1000);
        checks.same("below the bound", bench.weight(0, 0), 2000000.0);
        bench.feed(1000, 0);
        checks.same("the bound below 0", bench.weight(0, 0), -1000000000.0);
        bench.feed(1000, 0);
        checks.same("the bound", bench.weight(0, 0), 1000000000.0);
        checks.same("how far off", bench.of(0, 2), 1.0e18);
    }

    /** With x of 0 alone a square doubles at each sample: 100 * 2^13 is below 1000000. */
    private static void resetsASquareAboveItsBound() {
        EchoBench bench = new EchoBench();
        bench.filter(EchoBench.RLS, 2, 500);
        for (int sample = 0; sample < 13; sample++) {
            bench.feed(0, 0);
        }
        checks.same("below the bound", bench.square(0, 1, 1), 819200.0);
        checks.same("no reset", bench.count(0, 2), 0);
        bench.feed(0, 0);
        checks.same("as at first", bench.square(0, 0, 0), 100.0);
        checks.same("as at first", bench.square(0, 1, 1), 100.0);
        checks.same("one reset", bench.count(0, 2), 1);

        EchoBench edge = new EchoBench();
        edge.filter(EchoBench.RLS, 1, 800);
        for (int sample = 0; sample < 16; sample++) {
            edge.step(0, sample < 4 ? 800 : 500);
            edge.feed(0, 0);
        }
        checks.same("at the bound", edge.square(0, 0, 0), 1000000.0);
        checks.same("no reset", edge.count(0, 2), 0);
        edge.step(0, 1000);
        edge.feed(0, 0);
        checks.same("still at the bound", edge.square(0, 0, 0), 1000000.0);
        edge.step(0, 999);
        edge.feed(0, 0);
        checks.same("above it", edge.square(0, 0, 0), 100.0);
        checks.same("a reset", edge.count(0, 2), 1);
    }

    /** What was found by trying: here a diagonal number comes out below 0.0 at sample 36. */
    private static void resetsASquareBelowZero() {
        EchoBench bench = new EchoBench();
        bench.filter(EchoBench.RLS, 2, 500);
        int v = bench.script(287, 35);
        checks.same("no reset yet", bench.count(0, 2), 0);
        double before = bench.weight(0, 0);
        bench.path(0, 1000);
        bench.script(v, 1);
        checks.same("a reset", bench.count(0, 2), 1);
        asAtFirst(bench, 2);
        checks.holds("the weights have learned", bench.weight(0, 0) != before);
    }

    /** Found likewise: here m is below 0.000001 at sample 35. */
    private static void resetsASquareForASmallM() {
        EchoBench bench = new EchoBench();
        bench.filter(EchoBench.RLS, 3, 500);
        int v = bench.script(1999, 34);
        checks.same("no reset yet", bench.count(0, 2), 0);
        double before = bench.weight(0, 0);
        bench.path(0, 1000);
        bench.script(v, 1);
        checks.same("a reset", bench.count(0, 2), 1);
        asAtFirst(bench, 3);
        checks.holds("there was an error", bench.of(0, 1) != 0.0);
        checks.same("nothing is learned", bench.weight(0, 0), before);
        checks.same("it did not hold", bench.count(0, 1), 0);
    }

    private static void boundsNothingBesideTheDiagonal() {
        EchoBench bench = FlatSquare.bench();
        int resets = bench.count(0, 2);
        double due01 = FlatSquare.P01;
        double due10 = FlatSquare.P10;
        checks.same("P 0 0", bench.square(0, 0, 0), 0.0);
        checks.same("P 1 1", bench.square(0, 1, 1), 0.0);
        // The run so far was of 59 calls, and five are still to come: these are all that are left of 512.
        for (int sample = 0; sample < 448; sample++) {
            bench.feed(0, 0);
            due01 = due01 / 0.5;
            due10 = due10 / 0.5;
        }
        checks.same("P 0 1", bench.square(0, 0, 1), due01);
        checks.same("P 1 0", bench.square(0, 1, 0), due10);
        checks.holds("they are far beyond 1.0e100", due01 > 1.0e129 && due10 < -1.0e129);
        checks.same("P 0 0", bench.square(0, 0, 0), 0.0);
        checks.same("P 1 1", bench.square(0, 1, 1), 0.0);
        checks.same("no reset", bench.count(0, 2), resets);
    }

    /** A huge square is taken as it is: its diagonal goes below 0.0 at the next x, and the weight learns. */
    private static void learnsFromAHugeSquare() {
        EchoBench bench = FlatSquare.bench();
        bench.begin(0);
        checks.same("begin makes P as at first", bench.square(0, 0, 1), 0.0);

        bench = FlatSquare.bench();
        for (int sample = 0; sample < 400; sample++) {
            bench.feed(0, 0);
        }
        int resets = bench.count(0, 2);
        double before = bench.weight(0, 1);
        double p = bench.square(0, 1, 0);
        bench.feed(3, 8);
        checks.same("a reset", bench.count(0, 2), resets + 1);
        asAtFirst(bench, 2);
        double learned = before + p * 3.0 / 0.5 * bench.of(0, 1);
        double bound = 1.0e9;
        checks.same("the weight", bench.weight(0, 1), learned > bound ? bound : learned < -bound ? -bound : learned);
        checks.holds("it learned", bench.weight(0, 1) != before);
    }

    private static void asAtFirst(EchoBench bench, int taps) {
        for (int row = 0; row < taps; row++) {
            for (int column = 0; column < taps; column++) {
                checks.same("P as at first", bench.square(0, row, column), row == column ? 100.0 : 0.0);
            }
        }
    }

    private static void keepsEightX() {
        EchoBench bench = new EchoBench();
        for (int x = 1; x <= 9; x++) {
            bench.feed(x, 0);
        }
        bench.filter(EchoBench.LMS, 8, 1000);
        bench.feed(10, 1);
        for (int tap = 0; tap < 8; tap++) {
            checks.same("weight " + tap, bench.weight(0, tap), 10.0 - tap);
        }
    }

    private static void refuses() {
        EchoBench bench = new EchoBench();
        bench.path(1, 100);
        bench.filter(EchoBench.LMS, 2, 1);
        bench.feed(5, 5);
        checks.throwsArgument("x 1001", bench, () -> bench.feed(1001, 0));
        checks.throwsArgument("x -1001", bench, () -> bench.feed(-1001, 0));
        checks.throwsArgument("talk 1001", bench, () -> bench.feed(0, 1001));
        checks.throwsArgument("talk -1001", bench, () -> bench.feed(0, -1001));
        checks.same("the refused are not counted", bench.feed(1, 0), 2);
        checks.same("nor kept", bench.microphone(), 5.0);
        int v = 0;
        for (int i = 0; i < 19; i++) {
            v = bench.script(v, 100);
        }
        bench.script(v, 97);
        checks.same("the last sample", bench.feed(0, 0), 2000);
        checks.throwsState("one more", bench, () -> bench.feed(0, 0));
        checks.throwsArgument("a wrong one more", bench, () -> bench.feed(0, 1001));
        bench.begin(0);
        checks.throwsState("one more behind begin", bench, () -> bench.feed(0, 0));
    }

    private static void refusesTheFarthest() {
        EchoBench bench = new EchoBench();
        bench.filter(EchoBench.SIGN, 2, 1000);
        for (int call = 0; call < 20; call++) {
            int samples = 99 * call;
            checks.same("samples", bench.feed(1000, -1000), samples + 1);
            for (int far : new int[] {Integer.MIN_VALUE, Integer.MAX_VALUE}) {
                checks.throwsArgument("x", bench, () -> bench.feed(far, 0));
                checks.throwsArgument("talk", bench, () -> bench.feed(0, far));
            }
            bench.script(call, 98);
        }
        for (int sample = 1981; sample <= 2000; sample++) {
            checks.same("to the last", bench.feed(-1000, 1000), sample);
        }
        checks.throwsState("none beyond", bench, () -> bench.feed(-1000, 1000));
        checks.throwsState("nor again", bench, () -> bench.feed(0, 0));
        checks.same("all were heard", bench.count(0, 0), 2000);
    }
}
