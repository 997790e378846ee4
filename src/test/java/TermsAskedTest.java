/** Terms, what is asked: one, 15, 16 and 17 samples, the path told last, a z of 0 and of 1, questions. */
public final class TermsAskedTest {
    private static final Checks checks = new Checks("terms, what is asked");

    public static void main(String[] args) {
        isOffByThePathToldLast();
        isOffAtItsTapsAlone();
        hasNoPowerWithoutErrors();
        forgetsTheSeventeenthError();
        countsErrorsOfHeldSamples();
        takesAllSamplesForABatchUpToSixteen();
        keepsXOneAsItWasAtItsSample();
        answersZeroAtAZOfZeroAlone();
        answersTheSameBehindQuestions();
        checks.end();
    }

    private static void isOffByThePathToldLast() {
        EchoBench bench = new EchoBench();
        bench.filter(EchoBench.LMS, 1, 1000);
        checks.same("a path of 0", bench.of(0, 2), 0.0);
        bench.path(0, 1000);
        checks.same("without a sample", bench.of(0, 2), 100.0);
        bench.path(0, -1000);
        checks.same("the least", bench.of(0, 2), 100.0);
        bench.feed(1, 12);
        checks.same("behind a sample", bench.weight(0, 0), 2.0);
        checks.same("it is off", bench.of(0, 2), 144.0);
        bench.path(0, 200);
        checks.same("told anew, it is not", bench.of(0, 2), 0.0);
        bench.begin(0);
        checks.same("begun anew, it is", bench.of(0, 2), 4.0);
    }

    private static void isOffAtItsTapsAlone() {
        for (int taps = 1; taps <= 8; taps++) {
            EchoBench bench = new EchoBench();
            bench.filter(EchoBench.NORMAL, taps, 1);
            double due = 0.0;
            for (int place = 0; place < 8; place++) {
                bench.path(place, 100 << place % 3);
                due += place < taps ? (1 << place % 3) * (1 << place % 3) : 0;
            }
            checks.same(taps + " taps", bench.of(0, 2), due);
        }
    }

    private static void hasNoPowerWithoutErrors() {
        EchoBench bench = new EchoBench();
        bench.feed(1000, 1000);
        bench.filter(EchoBench.SIGN, 1, 1);
        checks.same("no sample yet", bench.of(0, 3), 0.0);
        bench.feed(0, -3);
        checks.same("one", bench.of(0, 3), 9.0);
        bench.begin(0);
        checks.same("begun anew", bench.of(0, 3), 0.0);
        bench.feed(0, 2);
        checks.same("one since", bench.of(0, 3), 4.0);
    }

    /** All x are 0, so the errors are what is said: one of 40, then others of 4. */
    private static void forgetsTheSeventeenthError() {
        EchoBench bench = new EchoBench();
        bench.filter(EchoBench.RLS, 1, 1000);
        bench.feed(0, 40);
        for (int sample = 2; sample <= 16; sample++) {
            bench.feed(0, 4);
            checks.same("among " + sample, bench.of(0, 3), (1600.0 + 16.0 * (sample - 1)) / sample);
        }
        bench.feed(0, 4);
        checks.same("17 behind", bench.of(0, 3), 16.0);
        for (int sample = 0; sample < 40; sample++) {
            bench.feed(0, 0);
            checks.same("silence", bench.of(0, 3), 16.0 * Math.max(0, 15 - sample) / 16);
        }
    }

    private static void countsErrorsOfHeldSamples() {
        EchoBench bench = new EchoBench();
        bench.filter(EchoBench.LMS, 1, 1);
        bench.watch(0, 1, 1);
        bench.feed(0, 10);
        bench.feed(0, 0);
        checks.same("held", bench.count(0, 1), 2);
        checks.same("the power", bench.of(0, 3), 50.0);
        checks.same("the last error", bench.of(0, 1), 0.0);
    }

    /** An x of 2 and one of 1, with 8 and 4 in the microphone; then silence, until both are too old. */
    private static void takesAllSamplesForABatchUpToSixteen() {
        EchoBench bench = new EchoBench();
        bench.feed(2, 8);
        checks.same("one sample alone", bench.batch(0), 0.0);
        checks.same("one sample alone", bench.batch(1), 0.0);
        bench.feed(1, 4);
        // a 5, b 2, c 4, p 20, q 8, z 16
        checks.same("two samples", bench.batch(0), 4.0);
        checks.same("two samples", bench.batch(1), 0.0);
        bench.feed(0, 5);
        // a 5, b 2, c 5, p 20, q 13, z 21
        for (int samples = 3; samples <= 16; samples++) {
            checks.same("at " + samples, bench.batch(0), (20.0 * 5.0 - 13.0 * 2.0) / 21.0);
            checks.same("at " + samples, bench.batch(1), (13.0 * 5.0 - 20.0 * 2.0) / 21.0);
            bench.feed(0, 0);
        }
        // Without the first one: a 1, b 2, c 5, p 4, q 13, z 1
        checks.same("at 17", bench.batch(0), 4.0 * 5.0 - 13.0 * 2.0);
        checks.same("at 17", bench.batch(1), 13.0 * 1.0 - 4.0 * 2.0);
        bench.feed(0, 0);
        // Without the second: a 0, so z is 0
        checks.same("at 18", bench.batch(0), 0.0);
        checks.same("at 18", bench.batch(1), 0.0);
    }

    /** The oldest of 16 samples has an x 1 of a sample that is too old itself. */
    private static void keepsXOneAsItWasAtItsSample() {
        EchoBench bench = new EchoBench();
        bench.feed(3, 0);
        bench.feed(1, 10);
        for (int sample = 0; sample < 15; sample++) {
            bench.feed(0, 0);
        }
        // a 1, b 3, c 9 + 1, p 10, q 30, z 1
        checks.same("weight 0", bench.batch(0), 10.0 * 10.0 - 30.0 * 3.0);
        checks.same("weight 1", bench.batch(1), 30.0 * 1.0 - 10.0 * 3.0);
    }

    /** z is made of whole numbers, and is never below 0: 0 and 1 are the nearest to 0.5. */
    private static void answersZeroAtAZOfZeroAlone() {
        EchoBench bench = new EchoBench();
        checks.same("no samples", bench.batch(0), 0.0);
        checks.same("no samples", bench.batch(1), 0.0);
        bench.feed(1000, 1000);
        checks.same("z 0", bench.batch(0), 0.0);
        checks.same("z 0", bench.batch(1), 0.0);
        bench.feed(0, 7);
        checks.same("z beyond 0.5", bench.batch(1), 7.0 / 1000.0);

        EchoBench least = new EchoBench();
        least.feed(-1, 3);
        least.feed(0, 4);
        checks.same("z 1, weight 0", least.batch(0), -3.0);
        checks.same("z 1, weight 1", least.batch(1), -4.0);
    }

    /** Questions change nothing: a bench that is asked all at each sample stays as one that is asked nothing. */
    private static void answersTheSameBehindQuestions() {
        EchoBench asked = Twins.made();
        EchoBench unasked = Twins.made();
        for (int sample = 0; sample < 60; sample++) {
            String seen = Look.at(asked);
            checks.sameText("asked twice", Look.at(asked), seen);
            Twins.goOn(asked, sample);
            Twins.goOn(unasked, sample);
        }
        checks.sameText("asked or not", Look.at(asked), Look.at(unasked));
    }
}
