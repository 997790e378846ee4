import java.util.Arrays;

/**
 * Terms, numbers: the square of an RLS filter where doubles end. Its sums, products and quotients
 * are those of doubles, infinite or NaN, and only the document's two cases reset it.
 */
public final class TermsEndOfDoublesTest {
    private static final Checks checks = new Checks("terms, the end of doubles");
    private static final double NAN = Double.NaN;
    private static final double INFINITE = Double.POSITIVE_INFINITY;

    public static void main(String[] args) {
        isNoResetAtAnMOfNaN();
        answersNaNBehindIt();
        beginsAnewBehindIt();
        leavesTheOthersAlone();
        doublesAtAnInfiniteM();
        makesNaNOfNothingAndAnInfiniteG();
        resetsAtAnMInfinitelyBelowZero();
        resetsAtADiagonalInfinitelyBelowZero();
        hasInfiniteNumbersBesideTheDiagonal();
        holdsWhatAnInfiniteShareTeaches();
        makesNaNOfAnInfiniteShareAndNoError();
        checks.end();
    }

    private static void sameWeights(EchoBench bench, double... due) {
        for (int tap = 0; tap < due.length; tap++) {
            checks.same("weight " + tap, bench.weight(0, tap), due[tap]);
        }
    }

    private static void sameSquare(EchoBench bench, double... due) {
        for (int at = 0; at < due.length; at++) {
            checks.same("P " + at / 4 + " " + at % 4, bench.square(0, at / 4, at % 4), due[at]);
        }
    }

    private static void allNaN(EchoBench bench) {
        double[] square = new double[16];
        Arrays.fill(square, NAN);
        sameSquare(bench, square);
        sameWeights(bench, NAN, NAN, NAN, NAN);
    }

    private static void squareAsAtFirst(EchoBench bench) {
        sameSquare(bench, 100, 0, 0, 0, 0, 100, 0, 0, 0, 0, 100, 0, 0, 0, 0, 100);
    }

    /** m adds up an infinite number and one that is infinite below 0. */
    private static void isNoResetAtAnMOfNaN() {
        EchoBench bench = DoublingSquare.bench(339);
        bench.script(DoublingSquare.V, 1);
        checks.same("b", bench.square(0, 3, 0), 1.3715310171984222E303);
        bench.script(0, 1);
        checks.same("no reset", bench.count(0, 2), 0);
        allNaN(bench);
    }

    private static void answersNaNBehindIt() {
        EchoBench bench = DoublingSquare.bench(DoublingSquare.LAST_SCRIPTS);
        sameWeights(bench, 0.0, 0.0, 0.0, 0.0);
        int held = bench.count(0, 1);
        bench.feed(DoublingSquare.XS[0], 2);
        checks.same("an output ahead of it", bench.of(0, 0), 0.0);
        checks.same("an error ahead of it", bench.of(0, 1), 2.0);
        checks.same("a power ahead of it", bench.of(0, 3), 4.0 / 16);
        checks.same("how far it is off", bench.of(0, 2), NAN);
        allNaN(bench);
        for (int sample = 0; sample < 20; sample++) {
            bench.feed(sample, 0);
            for (int what = 0; what < 4; what++) {
                checks.same("of " + what, bench.of(0, what), NAN);
            }
        }
        checks.same("no reset", bench.count(0, 2), 0);
        checks.same("it held at none", bench.count(0, 1), held);
        checks.same("the microphone", bench.microphone(), 0.0);
    }

    private static void beginsAnewBehindIt() {
        EchoBench bench = DoublingSquare.bench(DoublingSquare.LAST_SCRIPTS + 1);
        bench.feed(5, 0);
        bench.begin(0);
        for (int what = 0; what < 4; what++) {
            checks.same("of " + what, bench.of(0, what), 0.0);
            checks.same("count " + what, bench.count(0, what), 0);
        }
        squareAsAtFirst(bench);
        sameWeights(bench, 0.0, 0.0, 0.0, 0.0);

        EchoBench other = new EchoBench();
        DoublingSquare.reach(other::feed);
        DoublingSquare.grow(other, DoublingSquare.LAST_SCRIPTS + 1);
        other.feed(5, 0);
        DoublingSquare.makeFilter(other);
        for (int sample = 0; sample < 3; sample++) {
            bench.feed(7 - sample, sample % 2);
            other.feed(7 - sample, sample % 2);
        }
        for (int tap = 0; tap < 4; tap++) {
            checks.same("as one that is new", bench.weight(0, tap), other.weight(0, tap));
            checks.same("its square, too", bench.square(0, tap, 1), other.square(0, tap, 1));
        }
        checks.holds("it learned", bench.weight(0, 1) != 0.0);
    }

    private static void leavesTheOthersAlone() {
        EchoBench bench = new EchoBench();
        EchoBench alone = new EchoBench();
        DoublingSquare.makeFilter(bench);
        for (int kind = EchoBench.LMS; kind <= EchoBench.RLS; kind++) {
            bench.filter(kind, 4, 500 + kind);
            alone.filter(kind, 4, 500 + kind);
        }
        DoublingSquare.reach(bench::feed);
        DoublingSquare.reach(alone::feed);
        DoublingSquare.grow(bench, DoublingSquare.LAST_SCRIPTS + 1);
        DoublingSquare.grow(alone, DoublingSquare.LAST_SCRIPTS + 1);
        sameWeights(bench, NAN, NAN, NAN, NAN);
        for (int kind = EchoBench.LMS; kind <= EchoBench.RLS; kind++) {
            for (int tap = 0; tap < 4; tap++) {
                checks.same("weight of " + kind, bench.weight(kind + 1, tap), alone.weight(kind, tap));
            }
            checks.same("power of " + kind, bench.of(kind + 1, 3), alone.of(kind, 3));
        }
        checks.same("resets", bench.count(4, 2), alone.count(3, 2));
    }

    /** g over an infinite m is 0.0: nothing is learned, and P is only divided by the step. */
    private static void doublesAtAnInfiniteM() {
        EchoBench bench = DoublingSquare.bench(339);
        double b = bench.square(0, 1, 0);
        double p00 = bench.square(0, 0, 0);
        double p02 = bench.square(0, 0, 2);
        bench.watch(0, 0, 0);
        bench.feed(-1000, 7);
        checks.same("error", bench.of(0, 1), 7.0);
        sameWeights(bench, 0.0, 0.0, 0.0, 0.0);
        sameSquare(bench, p00 / 0.5, 0.0, p02 / 0.5, 0.0, b / 0.5, 0.0, 0.0, -b / 0.5);
        checks.same("no reset", bench.count(0, 2), 0);
    }

    /** g 1, g 3 and m are infinite, so k 0 and k 2 are 0.0, and k 1 and k 3 are NaN. */
    private static void makesNaNOfNothingAndAnInfiniteG() {
        EchoBench bench = DoublingSquare.bench(DoublingSquare.LAST_SCRIPTS);
        double p00 = bench.square(0, 0, 0) / 0.5;
        double p02 = bench.square(0, 0, 2) / 0.5;
        double p22 = bench.square(0, 2, 2) / 0.5;
        for (int place = 1; place < 4; place++) {
            bench.feed(1, 1000);
        }
        bench.watch(0, 0, 0);
        bench.feed(1000, 7);
        sameSquare(bench, p00, NAN, p02, NAN, NAN, NAN, NAN, NAN, p02, NAN, p22, NAN, NAN, NAN, NAN, NAN);
        sameWeights(bench, 0.0, NAN, 0.0, NAN);
        checks.same("no reset", bench.count(0, 2), 0);
    }

    private static void resetsAtAnMInfinitelyBelowZero() {
        EchoBench bench = DoublingSquare.bench(339);
        bench.feed(DoublingSquare.XS[0], 0);
        bench.watch(0, 0, 0);
        // m is 615 b (x 0 less 913), b 2 to the power 1007: its first product is a double, its second is not.
        bench.feed(600, 7);
        checks.same("a reset", bench.count(0, 2), 1);
        squareAsAtFirst(bench);
        sameWeights(bench, 0.0, 0.0, 0.0, 0.0);
        bench.feed(600, 7);
        checks.holds("it learns anew", bench.weight(0, 0) > 0.0);
    }

    /** Huge, but m is a double yet: P 1 1 and P 3 3 become infinite below 0. */
    private static void resetsAtADiagonalInfinitelyBelowZero() {
        EchoBench bench = onSilence(3);
        bench.feed(1, 7);
        checks.same("a reset", bench.count(0, 2), 1);
        squareAsAtFirst(bench);
        checks.same("weight 1", bench.weight(0, 1), 1.0e9);
        checks.same("weight 3", bench.weight(0, 3), 1.0e9);
    }

    /** The last doubling square, where all x have become 0, behind so many samples of silence more. */
    private static EchoBench onSilence(int samples) {
        EchoBench bench = DoublingSquare.bench(DoublingSquare.LAST_SCRIPTS);
        for (int place = 0; place < 4; place++) {
            bench.feed(0, 1000);
        }
        bench.watch(0, 0, 0);
        for (int sample = 0; sample < samples; sample++) {
            bench.feed(0, 0);
        }
        checks.same("no reset on silence", bench.count(0, 2), 0);
        return bench;
    }

    private static void hasInfiniteNumbersBesideTheDiagonal() {
        EchoBench bench = onSilence(8);
        checks.same("the last double", bench.square(0, 1, 0), 0x1.0p1023);
        bench.feed(0, 0);
        double p00 = bench.square(0, 0, 0);
        double p02 = bench.square(0, 0, 2);
        sameSquare(bench, p00, 0.0, p02, 0.0, INFINITE, 0.0, 0.0, -INFINITE, p02, 0.0, bench.square(0, 2, 2), 0.0,
                INFINITE, INFINITE, INFINITE, 0.0);
        checks.holds("P 0 0 is small", p00 > 0.0 && p00 < 0.01);
        sameWeights(bench, 0.0, 0.0, 0.0, 0.0);
        checks.same("no reset", bench.count(0, 2), 0);
        // An infinite number times an x of 0 is NaN.
        bench.feed(0, 0);
        allNaN(bench);
        checks.same("no reset", bench.count(0, 2), 0);
    }

    /** g 1 is a double, and g 1 divided by m, which is about 0.5, is not. */
    private static void holdsWhatAnInfiniteShareTeaches() {
        for (int talk = -9; talk <= 9; talk += 6) {
            EchoBench bench = onSilence(7);
            double p00 = bench.square(0, 0, 0);
            double p20 = bench.square(0, 2, 0);
            checks.holds("g 1 is a double", bench.square(0, 1, 0) * 3.0 < INFINITE);
            bench.feed(3, talk);
            double m = 0.5 + 3.0 * (p00 * 3.0);
            double bound = talk < 0 ? -1.0e9 : 1.0e9;
            sameWeights(bench, p00 * 3.0 / m * talk, bound, p20 * 3.0 / m * talk, bound);
            checks.same("P 1 1 was below 0.0", bench.count(0, 2), 1);
            squareAsAtFirst(bench);
        }
    }

    private static void makesNaNOfAnInfiniteShareAndNoError() {
        EchoBench bench = onSilence(7);
        bench.feed(3, 0);
        checks.same("error", bench.of(0, 1), 0.0);
        sameWeights(bench, 0.0, NAN, 0.0, NAN);
        checks.same("P 1 1 was below 0.0", bench.count(0, 2), 1);
        squareAsAtFirst(bench);
        bench.feed(2, 0);
        checks.same("output", bench.of(0, 0), NAN);
        sameWeights(bench, NAN, NAN, NAN, NAN);
        // The square hears of x alone, so it goes on as it would with other weights.
        double m = 0.5 + 2.0 * 200.0 + 3.0 * 300.0;
        checks.same("P 0 1", bench.square(0, 0, 1), (0.0 - 200.0 / m * 300.0) / 0.5);
        checks.same("no other reset", bench.count(0, 2), 1);
    }
}
