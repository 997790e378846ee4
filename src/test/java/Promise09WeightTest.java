/** Promise 9: weight. */
public final class Promise09WeightTest {
    private static final Checks checks = new Checks("promise 9");

    public static void main(String[] args) {
        EchoBench bench = new EchoBench();
        checks.throwsIndex("no filter at all", bench, () -> bench.weight(0, 0));
        bench.filter(EchoBench.SIGN, 3, 1000);
        bench.filter(EchoBench.RLS, 4, 1000);
        bench.filter(EchoBench.LMS, 8, 1000);
        checks.same("at first", bench.weight(0, 2), 0.0);
        bench.feed(1, 0);
        bench.feed(2, 0);
        bench.feed(3, 500);
        checks.same("weight 0", bench.weight(0, 0), 3.0);
        checks.same("weight 1", bench.weight(0, 1), 2.0);
        checks.same("weight 2", bench.weight(0, 2), 1.0);
        checks.same("of another filter", bench.weight(2, 1), 1000.0);
        checks.same("beyond the samples", bench.weight(2, 7), 0.0);
        checks.same("asked again", bench.weight(0, 0), 3.0);

        checks.throwsIndex("tap 3 of 3", bench, () -> bench.weight(0, 3));
        checks.throwsIndex("tap 4 of 4", bench, () -> bench.weight(1, 4));
        checks.throwsIndex("tap 8 of 8", bench, () -> bench.weight(2, 8));
        checks.throwsIndex("tap -1", bench, () -> bench.weight(0, -1));
        checks.throwsIndex("filter 3", bench, () -> bench.weight(3, 0));
        checks.throwsIndex("filter -1", bench, () -> bench.weight(-1, 0));
        checks.throwsIndex("filter 6", bench, () -> bench.weight(6, 0));
        checks.throwsIndex("both wrong", bench, () -> bench.weight(Integer.MIN_VALUE, Integer.MAX_VALUE));
        tellsEachTapThereIs(checks);
        tellsWhatDoublesMake(checks);
        checks.end();
    }

    private static void tellsEachTapThereIs(Checks checks) {
        for (int kind = EchoBench.LMS; kind <= EchoBench.RLS; kind++) {
            for (int taps = 1; taps <= (kind == EchoBench.RLS ? 4 : 8); taps++) {
                EchoBench bench = new EchoBench();
                int beyond = taps;
                bench.filter(kind, taps, 500);
                bench.script(taps, 10);
                bench.feed(1, 1000);
                checks.holds("the last tap has learned", bench.weight(0, taps - 1) != 0.0);
                checks.throwsIndex("the next one", bench, () -> bench.weight(0, beyond));
            }
        }
    }

    /** A weight and NaN, together, are NaN, which is not beyond the bound. */
    private static void tellsWhatDoublesMake(Checks checks) {
        EchoBench bench = DoublingSquare.bench(DoublingSquare.LAST_SCRIPTS);
        for (int tap = 0; tap < 4; tap++) {
            checks.same("where m is a double", bench.weight(0, tap), 0.0);
        }
        DoublingSquare.grow(bench, 1);
        for (int tap = 0; tap < 4; tap++) {
            checks.same("where m was NaN", bench.weight(0, tap), Double.NaN);
        }
        checks.throwsIndex("tap 4 of 4", bench, () -> bench.weight(0, 4));
        bench.begin(0);
        checks.same("begun anew", bench.weight(0, 0), 0.0);
    }
}
