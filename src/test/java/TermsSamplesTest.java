/** Terms, the path and samples: the ends of their ranges, the latest 8 samples, nothing ahead of the first. */
public final class TermsSamplesTest {
    private static final Checks checks = new Checks("terms, samples");

    public static void main(String[] args) {
        hasAPathOfZeroAtFirst();
        takesTheEndsOfAllRanges();
        hasZeroAheadOfTheFirstSample();
        keepsTheLatestEightX();
        keepsScriptedXToo();
        keepsXWhileThereIsNoFilter();
        dropsARefusedSample();
        checks.end();
    }

    private static void hasAPathOfZeroAtFirst() {
        EchoBench bench = new EchoBench();
        for (int sample = 0; sample < 10; sample++) {
            bench.feed(1000, sample);
            checks.same("the talk alone", bench.microphone(), sample);
        }
    }

    private static void takesTheEndsOfAllRanges() {
        for (int sign = -1; sign <= 1; sign += 2) {
            EchoBench bench = new EchoBench();
            for (int place = 0; place < 8; place++) {
                bench.path(place, sign * 1000);
            }
            for (int sample = 1; sample <= 8; sample++) {
                bench.feed(1000, sign * 1000);
                checks.same("the loudest", bench.microphone(), sign * (1000.0 + 10000.0 * sample));
            }
            bench.feed(1000, -sign * 1000);
            checks.same("no louder echo", bench.microphone(), sign * 79000.0);
            bench.feed(-1000, 0);
            checks.same("the least x", bench.microphone(), sign * 60000.0);
        }
    }

    /** Weight k of a SIGN filter moves as soon as x k is there. */
    private static void hasZeroAheadOfTheFirstSample() {
        EchoBench bench = new EchoBench();
        bench.filter(EchoBench.SIGN, 8, 1000);
        for (int sample = 0; sample < 8; sample++) {
            bench.begin(0);
            bench.feed(1 + sample, 1000);
            for (int tap = 0; tap < 8; tap++) {
                checks.same("x " + tap + " at sample " + sample, bench.weight(0, tap),
                        tap <= sample ? 1 + sample - tap : 0.0);
            }
        }
    }

    private static void keepsTheLatestEightX() {
        EchoBench bench = new EchoBench();
        bench.path(7, 100);
        bench.filter(EchoBench.SIGN, 8, 1000);
        for (int sample = 0; sample < 30; sample++) {
            bench.feed(100 + sample, 0);
            checks.same("x 7 in the microphone", bench.microphone(), sample < 7 ? 0.0 : 93.0 + sample);
        }
        bench.begin(0);
        bench.feed(5, 1000);
        checks.same("x 0", bench.weight(0, 0), 5.0);
        checks.same("x 1", bench.weight(0, 1), 129.0);
        checks.same("x 7", bench.weight(0, 7), 123.0);
    }

    private static void keepsScriptedXToo() {
        EchoBench bench = new EchoBench();
        int v = bench.script(3, 20);
        bench.script(v, 1);
        bench.filter(EchoBench.SIGN, 8, 1000);
        bench.feed(9, 1);
        int[] x = new int[21];
        int now = 3;
        for (int i = 0; i < x.length; i++) {
            now = (7 * now + 1001) % 2001;
            x[i] = now - 1000;
        }
        for (int tap = 1; tap < 8; tap++) {
            checks.same("x " + tap, bench.weight(0, tap), x[21 - tap]);
        }
    }

    private static void keepsXWhileThereIsNoFilter() {
        EchoBench bench = new EchoBench();
        bench.feed(41, 0);
        bench.feed(42, 0);
        bench.filter(EchoBench.LMS, 3, 1000);
        bench.feed(43, 1);
        checks.same("x 0", bench.weight(0, 0), 43.0);
        checks.same("x 1", bench.weight(0, 1), 42.0);
        checks.same("x 2", bench.weight(0, 2), 41.0);
    }

    private static void dropsARefusedSample() {
        EchoBench bench = new EchoBench();
        bench.filter(EchoBench.LMS, 2, 1000);
        bench.path(1, 100);
        bench.feed(3, 0);
        checks.throwsArgument("x 1001", bench, () -> bench.feed(1001, 9));
        checks.throwsArgument("talk 1001", bench, () -> bench.feed(9, 1001));
        bench.feed(4, 0);
        checks.same("x 1 is that of the last sample taken", bench.microphone(), 3.0);
    }
}
