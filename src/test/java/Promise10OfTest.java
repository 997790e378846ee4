/** Promise 10: of. */
public final class Promise10OfTest {
    private static final Checks checks = new Checks("promise 10");

    public static void main(String[] args) {
        answersZeroWithoutASample();
        tellsTheLastSample();
        tellsHowFarOff();
        tellsThePowerOfSixteenErrors();
        refuses();
        answersZeroSinceItBegan();
        checks.end();
    }

    private static void answersZeroWithoutASample() {
        EchoBench bench = new EchoBench();
        bench.feed(100, 100);
        bench.filter(EchoBench.LMS, 3, 1);
        for (int what = 0; what < 4; what++) {
            checks.same("of " + what, bench.of(0, what), 0.0);
        }
    }

    private static void tellsTheLastSample() {
        EchoBench bench = new EchoBench();
        bench.filter(EchoBench.SIGN, 2, 1000);
        bench.feed(2, 9);
        checks.same("output at first", bench.of(0, 0), 0.0);
        checks.same("error at first", bench.of(0, 1), 9.0);
        bench.path(0, 100);
        bench.feed(5, 1);
        checks.same("output ahead of the learning", bench.of(0, 0), 10.0);
        checks.same("error", bench.of(0, 1), 6.0 - 10.0);
    }

    private static void tellsHowFarOff() {
        EchoBench bench = new EchoBench();
        bench.filter(EchoBench.SIGN, 2, 1000);
        bench.path(0, 300);
        bench.path(1, -50);
        bench.path(2, 1000);
        checks.same("the path told last, at its taps alone", bench.of(0, 2), 9.0 + 0.25);
        bench.feed(1, 0);
        checks.same("behind a sample", bench.of(0, 2), 4.0 + 0.25);
        bench.path(0, 100);
        checks.same("without a sample between", bench.of(0, 2), 0.25);
        bench.path(1, 0);
        checks.same("not off", bench.of(0, 2), 0.0);
        bench.path(0, 70);
        double gap = 1.0 - 70 / 100.0;
        checks.same("the weight less the number", bench.of(0, 2), gap * gap);
    }

    /** The filter never learns, as all x are 0: its errors are what is said. */
    private static void tellsThePowerOfSixteenErrors() {
        EchoBench bench = new EchoBench();
        bench.filter(EchoBench.NORMAL, 1, 1);
        double sum = 0.0;
        for (int sample = 1; sample <= 16; sample++) {
            bench.feed(0, sample);
            sum += sample * sample;
            checks.same("power at " + sample, bench.of(0, 3), sum / sample);
        }
        for (int sample = 17; sample <= 50; sample++) {
            bench.feed(0, sample);
            sum += sample * sample - (sample - 16) * (sample - 16);
            checks.same("power at " + sample, bench.of(0, 3), sum / 16);
        }
        oldestFirst();
    }

    /** Errors of such different sizes that another order answers another number. */
    private static void oldestFirst() {
        EchoBench bench = new EchoBench();
        bench.filter(EchoBench.LMS, 1, 2000);
        double[] errors = new double[40];
        for (int sample = 0; sample < errors.length; sample++) {
            bench.feed(sample % 3 == 0 ? 777 : sample - 20, 333 - sample);
            errors[sample] = bench.of(0, 1);
            double forward = 0.0;
            int first = Math.max(0, sample - 15);
            for (int i = first; i <= sample; i++) {
                forward += errors[i] * errors[i];
            }
            checks.same("power at " + sample, bench.of(0, 3), forward / (sample - first + 1));
        }
    }

    private static void refuses() {
        EchoBench bench = new EchoBench();
        checks.throwsIndex("no filter at all", bench, () -> bench.of(0, 0));
        bench.filter(EchoBench.LMS, 1, 1);
        bench.feed(7, 7);
        checks.throwsArgument("what 4", bench, () -> bench.of(0, 4));
        checks.throwsArgument("what -1", bench, () -> bench.of(0, -1));
        checks.throwsIndex("filter 1", bench, () -> bench.of(1, 0));
        checks.throwsIndex("filter -1", bench, () -> bench.of(-1, 0));
        checks.throwsIndex("both wrong", bench, () -> bench.of(1, 4));
    }

    private static void answersZeroSinceItBegan() {
        for (int kind = EchoBench.LMS; kind <= EchoBench.RLS; kind++) {
            EchoBench bench = new EchoBench();
            bench.filter(kind, 1, 500);
            bench.feed(3, 40);
            bench.feed(2, 5);
            checks.holds("an output", bench.of(0, 0) != 0.0);
            checks.holds("an error", bench.of(0, 1) != 0.0);
            bench.begin(0);
            for (int what = 0; what < 4; what++) {
                checks.same("of " + what, bench.of(0, what), 0.0);
            }
            bench.feed(2, 6);
            checks.same("output since", bench.of(0, 0), 0.0);
            checks.same("error since", bench.of(0, 1), 6.0);
            checks.throwsArgument("the least what", bench, () -> bench.of(0, Integer.MIN_VALUE));
            checks.throwsArgument("the greatest what", bench, () -> bench.of(0, Integer.MAX_VALUE));
            checks.throwsIndex("the least filter", bench, () -> bench.of(Integer.MIN_VALUE, 0));
            checks.throwsIndex("the greatest filter", bench, () -> bench.of(Integer.MAX_VALUE, 0));
        }
    }
}
