/** Terms, filters: where a sign turns, where a square is reset, where a filter holds. */
public final class TermsFiltersTest {
    private static final Checks checks = new Checks("terms, filters");

    public static void main(String[] args) {
        beginsWithWeightsOfZero();
        learnsBySignOfTheSmallestErrors();
        learnsNothingFromAnErrorOfZero();
        learnsNothingFromXOfZero();
        resetsJustAboveTheUpperBound();
        resetsForAnyDiagonalAbove();
        boundsTheDiagonalAlone();
        keepsADiagonalOfZero();
        resetsForAnyDiagonalBelow();
        learnsAtAMJustAbove();
        learnsNothingAtAMJustBelow();
        learnsNothingAtAMBelowZero();
        learnsAnewBehindAReset();
        neverHoldsUntold();
        holdsJustAboveTheWatch();
        holdsForTheLeastEchoOnSilence();
        holdsEitherWay();
        looksFromXZeroToTheLastTap();
        goesOnHoldingAsLongAsItsTail();
        startsItsTailAnew();
        keepsTheTailToldThen();
        checks.end();
    }

    private static EchoBench one(int kind, int taps, int step) {
        EchoBench bench = new EchoBench();
        bench.filter(kind, taps, step);
        return bench;
    }

    private static void beginsWithWeightsOfZero() {
        for (int kind = EchoBench.LMS; kind <= EchoBench.RLS; kind++) {
            EchoBench bench = one(kind, 4, 1000);
            for (int tap = 0; tap < 4; tap++) {
                checks.same("weight", bench.weight(0, tap), 0.0);
            }
            bench.feed(5, 7);
            checks.same("so the first output is 0.0", bench.of(0, 0), 0.0);
            checks.same("and the first error the microphone", bench.of(0, 1), 7.0);
        }
    }

    /** Weights of 0.1 added up come out beside the path by a last digit. */
    private static void learnsBySignOfTheSmallestErrors() {
        EchoBench bench = one(EchoBench.SIGN, 1, 100);
        for (int sample = 0; sample < 3; sample++) {
            bench.feed(1, 1000);
        }
        bench.path(0, 30);
        bench.feed(1, 0);
        checks.holds("an error just below 0.0", bench.of(0, 1) < 0.0 && bench.of(0, 1) > -1.0e-15);
        checks.same("turned to the other sign", bench.weight(0, 0), 0.1 + 0.1 + 0.1 - 0.1);

        bench.begin(0);
        double eighth = 0.0;
        bench.path(0, 0);
        for (int sample = 0; sample < 8; sample++) {
            bench.feed(1, 1000);
            eighth += 0.1;
        }
        bench.path(0, 80);
        bench.feed(1, 0);
        checks.holds("an error just above 0.0", bench.of(0, 1) > 0.0 && bench.of(0, 1) < 1.0e-15);
        checks.same("not turned", bench.weight(0, 0), eighth + 0.1);
    }

    private static void learnsNothingFromAnErrorOfZero() {
        for (int kind = EchoBench.LMS; kind <= EchoBench.RLS; kind++) {
            EchoBench bench = one(kind, 2, 1000);
            bench.feed(1000, 0);
            bench.feed(-3, 0);
            checks.same("error", bench.of(0, 1), 0.0);
            checks.same("weight 0", bench.weight(0, 0), 0.0);
            checks.same("weight 1", bench.weight(0, 1), 0.0);
            checks.same("it did not hold", bench.count(0, 1), 0);
        }
    }

    private static void learnsNothingFromXOfZero() {
        for (int kind = EchoBench.LMS; kind <= EchoBench.RLS; kind++) {
            EchoBench bench = one(kind, 2, 1000);
            bench.feed(0, 1000);
            bench.feed(0, -1000);
            checks.same("error", bench.of(0, 1), -1000.0);
            checks.same("weight 0", bench.weight(0, 0), 0.0);
            checks.same("weight 1", bench.weight(0, 1), 0.0);
        }
    }

    /** An RLS of one tap while x is 0: P becomes 100.0, divided by each of the steps. */
    private static EchoBench divided(int first, int second, int third, int last) {
        EchoBench bench = one(EchoBench.RLS, 1, first);
        bench.feed(0, 0);
        for (int step : new int[] {second, third}) {
            bench.step(0, step);
            bench.feed(0, 0);
        }
        bench.step(0, 500);
        for (int sample = 0; sample < 12; sample++) {
            bench.feed(0, 0);
        }
        bench.step(0, last);
        bench.feed(0, 0);
        return bench;
    }

    private static void resetsJustAboveTheUpperBound() {
        EchoBench below = divided(633, 698, 945, 981);
        checks.holds("just below", below.square(0, 0, 0) < 1000000.0 && below.square(0, 0, 0) > 999999.99);
        checks.same("no reset", below.count(0, 2), 0);

        EchoBench at = divided(800, 800, 800, 800);
        checks.same("at the bound", at.square(0, 0, 0), 1000000.0);
        checks.same("no reset", at.count(0, 2), 0);

        double due = 100.0 / 0.761 / 0.799 / 0.801 * 4096.0 / 0.841;
        checks.holds("just above", due > 1000000.0 && due < 1000000.01);
        EchoBench above = divided(761, 799, 801, 841);
        checks.same("as at first", above.square(0, 0, 0), 100.0);
        checks.same("a reset", above.count(0, 2), 1);
    }

    /** Two taps; a sample that is held on the way keeps x from one of them. */
    private static void resetsForAnyDiagonalAbove() {
        for (int grown = 0; grown < 2; grown++) {
            EchoBench bench = one(EchoBench.RLS, 2, 500);
            feedOrHold(bench, 1000, 0, grown == 0);
            feedOrHold(bench, 0, 0, grown == 1);
            for (int sample = 0; sample < 12; sample++) {
                bench.feed(0, 0);
            }
            checks.same("the one that grew", bench.square(0, grown, grown), 819200.0);
            checks.holds("the other", bench.square(0, 1 - grown, 1 - grown) < 1.0);
            checks.same("no reset yet", bench.count(0, 2), 0);
            bench.feed(0, 0);
            asAtFirst(bench);
            checks.same("one reset", bench.count(0, 2), 1);
        }
    }

    /** The bench has one filter, whose watch is left at none. */
    private static void feedOrHold(EchoBench bench, int x, int talk, boolean hold) {
        bench.watch(0, hold ? 1 : 0, 0);
        int held = bench.count(0, 1);
        bench.feed(x, hold ? 1000 : talk);
        checks.same("held", bench.count(0, 1), hold ? held + 1 : held);
        bench.watch(0, 0, 0);
    }

    private static void asAtFirst(EchoBench bench) {
        for (int row = 0; row < 2; row++) {
            for (int column = 0; column < 2; column++) {
                checks.same("P as at first", bench.square(0, row, column), row == column ? 100.0 : 0.0);
            }
        }
    }

    private static void boundsTheDiagonalAlone() {
        EchoBench bench = FlatSquare.bench();
        int resets = bench.count(0, 2);
        for (int sample = 0; sample < 45; sample++) {
            bench.feed(0, 0);
        }
        checks.holds("P 0 1 is far above", bench.square(0, 0, 1) > 100000000.0);
        checks.holds("P 1 0 is far below", bench.square(0, 1, 0) < -100000000.0);
        checks.same("no reset", bench.count(0, 2), resets);
    }

    private static void keepsADiagonalOfZero() {
        EchoBench bench = FlatSquare.bench();
        int resets = bench.count(0, 2);
        bench.feed(0, 0);
        checks.same("P 0 0", bench.square(0, 0, 0), 0.0);
        checks.same("P 1 1", bench.square(0, 1, 1), 0.0);
        checks.same("P 0 1", bench.square(0, 0, 1), FlatSquare.P01 / 0.5);
        checks.same("no reset", bench.count(0, 2), resets);
    }

    /** x 1 alone makes P 0 0, and x 0 alone P 1 1, a little less than 0.0. */
    private static void resetsForAnyDiagonalBelow() {
        for (int row = 0; row < 2; row++) {
            EchoBench bench = FlatSquare.bench();
            int resets = bench.count(0, 2);
            double far = row == 0 ? FlatSquare.P01 : FlatSquare.P10;
            double below = (0.0 - far / 0.5 * far) / 0.5;
            checks.holds("just below", below < 0.0 && below > -1.0e-9);
            feedOrHold(bench, 1, 7, row == 0);
            if (row == 0) {
                bench.feed(0, 7);
            }
            checks.same("a reset", bench.count(0, 2), resets + 1);
            asAtFirst(bench);
            checks.same("what was learned stays", bench.weight(0, row), 0.0 + far / 0.5 * 7.0);
            checks.same("the other learned nothing", bench.weight(0, 1 - row), 0.0);
        }
    }

    /**
     * The flat square behind a held x 1 and an x 0, told so that m comes out near 0.000001,
     * or below 0.0: found by trying.
     */
    private static EchoBench atM(int step, int x1, int x0, double least, double most) {
        EchoBench bench = FlatSquare.bench();
        checks.same("no weight yet", bench.weight(0, 0), 0.0);
        bench.step(0, step);
        feedOrHold(bench, x1, 0, true);
        int resets = bench.count(0, 2);
        double m = step / 1000.0 + x0 * (FlatSquare.P01 * x1) + x1 * (FlatSquare.P10 * x0);
        checks.holds("m is " + m, m > least && m < most);
        bench.feed(x0, 5);
        checks.same("a reset", bench.count(0, 2), resets + 1);
        asAtFirst(bench);
        checks.same("an error", bench.of(0, 1), 5.0);
        return bench;
    }

    private static void learnsAtAMJustAbove() {
        EchoBench bench = atM(684, -834, 627, 0.000001, 0.00000101);
        double m = 0.684 + 627 * (FlatSquare.P01 * -834) + -834 * (FlatSquare.P10 * 627);
        checks.same("weight 0", bench.weight(0, 0), FlatSquare.P01 * -834 / m * 5.0);
        checks.same("weight 1", bench.weight(0, 1), FlatSquare.P10 * 627 / m * 5.0);
    }

    private static void learnsNothingAtAMJustBelow() {
        EchoBench bench = atM(680, -935, 556, 0.00000099, 0.000001);
        checks.same("weight 0", bench.weight(0, 0), 0.0);
        checks.same("weight 1", bench.weight(0, 1), 0.0);
        checks.same("that is no hold", bench.count(0, 1), 1);
    }

    private static void learnsNothingAtAMBelowZero() {
        for (int x1 = -1000; x1 <= -700; x1 += 100) {
            EchoBench bench = atM(500, x1, 1000, -1.0, 0.0);
            checks.same("weight 0", bench.weight(0, 0), 0.0);
            checks.same("weight 1", bench.weight(0, 1), 0.0);
        }
    }

    private static void learnsAnewBehindAReset() {
        EchoBench bench = atM(680, -935, 556, 0.0, 0.000001);
        bench.step(0, 1000);
        feedOrHold(bench, 0, 0, true);
        bench.feed(3, 11);
        checks.same("with P as at first", bench.weight(0, 0), 300.0 / (1.0 + 3.0 * 300.0) * 11.0);
        checks.same("P 0 0", bench.square(0, 0, 0), 100.0 - 300.0 / 901.0 * 300.0);
    }

    private static void neverHoldsUntold() {
        EchoBench bench = one(EchoBench.LMS, 1, 1);
        bench.feed(0, 1000);
        checks.same("a new filter", bench.count(0, 1), 0);
        bench.watch(0, 0, 20);
        bench.feed(0, -1000);
        checks.same("a watch of 0", bench.count(0, 1), 0);
        checks.same("goes on for nothing", bench.count(0, 3), 0);
        bench.watch(0, 1, 20);
        bench.feed(0, 0);
        checks.same("silence on silence is not above", bench.count(0, 1), 0);
        bench.feed(0, 1);
        checks.same("any talk on silence is", bench.count(0, 1), 1);
    }

    private static void holdsJustAboveTheWatch() {
        EchoBench bench = one(EchoBench.SIGN, 1, 1);
        bench.watch(0, 1, 0);
        bench.feed(1000, 10);
        checks.same("at the least watch", bench.count(0, 1), 0);
        bench.path(0, 1);
        bench.feed(1000, 0);
        checks.same("at it by the echo", bench.count(0, 1), 0);
        bench.path(1, 1);
        bench.feed(1000, -9);
        checks.same("just above it", bench.count(0, 1), 1);
        bench.path(0, 0);
        bench.path(1, 0);
        bench.watch(0, 1000, 0);
        bench.feed(100, 1000);
        checks.same("at the most watch", bench.count(0, 1), 1);
        bench.feed(99, 1000);
        checks.same("above it", bench.count(0, 1), 2);
    }

    private static void holdsEitherWay() {
        for (int signs = 0; signs < 4; signs++) {
            int x = signs % 2 == 0 ? 10 : -10;
            int talk = signs / 2 == 0 ? 1 : -1;
            EchoBench bench = one(EchoBench.NORMAL, 1, 1);
            bench.watch(0, 200, 0);
            bench.feed(x, talk * 20);
            checks.same("at the watch", bench.count(0, 1), 0);
            bench.feed(x, talk * 21);
            checks.same("above it", bench.count(0, 1), 1);
        }
    }

    private static void looksFromXZeroToTheLastTap() {
        for (int taps = 1; taps <= 8; taps++) {
            EchoBench bench = one(EchoBench.SIGN, taps, 1);
            bench.watch(0, 100, 0);
            for (int sample = 0; sample < 8; sample++) {
                bench.feed(sample == 0 ? -500 : 0, sample == 0 ? 0 : 500);
                checks.same(taps + " taps at sample " + sample, bench.count(0, 1), Math.max(0, sample - taps + 1));
            }
        }
    }

    private static void goesOnHoldingAsLongAsItsTail() {
        for (int tail : new int[] {0, 1, 19, 20}) {
            EchoBench bench = one(EchoBench.LMS, 1, 1000);
            bench.watch(0, 100, tail);
            bench.feed(1, 1000);
            for (int sample = 0; sample < tail; sample++) {
                checks.same("it still has to hold", bench.count(0, 3), tail - sample);
                bench.feed(2, 1);
                checks.same("it held", bench.count(0, 1), 2 + sample);
                checks.same("it learned nothing", bench.weight(0, 0), 0.0);
            }
            checks.same("no more", bench.count(0, 3), 0);
            bench.feed(2, 1);
            checks.same("it holds no more", bench.count(0, 1), 1 + tail);
            checks.same("it learned", bench.weight(0, 0), 2.0);
            checks.same("none is left over", bench.count(0, 3), 0);
        }
    }

    private static void startsItsTailAnew() {
        EchoBench bench = one(EchoBench.LMS, 1, 1);
        bench.watch(0, 100, 3);
        bench.feed(1, 2);
        bench.feed(1, 2);
        checks.same("loud twice", bench.count(0, 3), 3);
        bench.feed(1, 0);
        bench.feed(1, 0);
        bench.feed(1, 2);
        checks.same("loud in the tail", bench.count(0, 3), 3);
        bench.feed(1, 0);
        bench.feed(1, 0);
        bench.feed(1, 0);
        checks.same("the tail ends", bench.count(0, 3), 0);
        bench.feed(1, 2);
        checks.same("loud behind the tail", bench.count(0, 3), 3);
        checks.same("held", bench.count(0, 1), 9);
    }

    private static void keepsTheTailToldThen() {
        EchoBench bench = one(EchoBench.LMS, 1, 1);
        bench.watch(0, 100, 5);
        bench.feed(1, 2);
        bench.watch(0, 1000, 0);
        checks.same("a shorter tail told later", bench.count(0, 3), 5);
        bench.watch(0, 0, 20);
        checks.same("a longer one, and no watch", bench.count(0, 3), 5);
        for (int sample = 0; sample < 5; sample++) {
            bench.step(0, 2 + sample);
            bench.feed(1, 1000);
            checks.same("it goes on", bench.count(0, 1), 2 + sample);
        }
        bench.feed(1, 1000);
        checks.same("and ends", bench.count(0, 1), 6);
        bench.watch(0, 100, 4);
        bench.feed(1, 1000);
        bench.watch(0, 100, 1);
        bench.feed(1, 1000);
        checks.same("the last such one's tail, though shorter", bench.count(0, 3), 1);
        bench.watch(0, 100, 9);
        bench.feed(1, 1000);
        checks.same("or longer", bench.count(0, 3), 9);
    }

    /** Without an x at its taps any microphone is above any watch: here an echo of 0.01 by an x beyond them. */
    private static void holdsForTheLeastEchoOnSilence() {
        for (int hundredths : new int[] {1, -1}) {
            EchoBench bench = one(EchoBench.LMS, 1, 1);
            bench.path(1, hundredths);
            bench.feed(1, 0);
            bench.watch(0, 1000, 0);
            bench.feed(0, 0);
            checks.same("the least microphone", bench.microphone(), hundredths / 100.0);
            checks.same("above the most watch", bench.count(0, 1), 1);
            bench.feed(0, hundredths);
            checks.same("so is the least talk", bench.count(0, 1), 2);
            bench.feed(0, 0);
            checks.same("silence is not", bench.count(0, 1), 2);
        }
    }
}
