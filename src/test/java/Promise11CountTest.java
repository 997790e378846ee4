/** Promise 11: count. */
public final class Promise11CountTest {
    private static final Checks checks = new Checks("promise 11");

    public static void main(String[] args) {
        EchoBench bench = new EchoBench();
        checks.throwsIndex("no filter at all", bench, () -> bench.count(0, 0));
        bench.feed(0, 0);
        bench.filter(EchoBench.RLS, 1, 500);
        bench.filter(EchoBench.LMS, 1, 500);
        for (int what = 0; what < 4; what++) {
            checks.same("at first", bench.count(0, what), 0);
        }
        for (int sample = 0; sample < 42; sample++) {
            bench.feed(0, 0);
        }
        checks.same("samples", bench.count(0, 0), 42);
        checks.same("held", bench.count(0, 1), 0);
        checks.same("resets", bench.count(0, 2), 3);
        checks.same("resets of an LMS", bench.count(1, 2), 0);

        bench.watch(0, 50, 6);
        bench.feed(0, 1);
        bench.feed(0, 0);
        checks.same("samples", bench.count(0, 0), 44);
        checks.same("held", bench.count(0, 1), 2);
        checks.same("holds for", bench.count(0, 3), 5);
        checks.same("resets", bench.count(0, 2), 3);
        checks.same("the other did not hold", bench.count(1, 1), 0);
        checks.same("nor goes on", bench.count(1, 3), 0);
        bench.begin(0);
        for (int what = 0; what < 4; what++) {
            checks.same("behind begin", bench.count(0, what), 0);
        }
        bench.feed(0, 0);
        checks.same("samples since", bench.count(0, 0), 1);
        checks.same("the other's samples", bench.count(1, 0), 45);

        checks.throwsArgument("what 4", bench, () -> bench.count(0, 4));
        checks.throwsArgument("what -1", bench, () -> bench.count(0, -1));
        checks.throwsIndex("filter 2", bench, () -> bench.count(2, 0));
        checks.throwsIndex("filter -1", bench, () -> bench.count(-1, 0));
        checks.throwsIndex("both wrong", bench, () -> bench.count(2, 4));
        countsFromTheNextSampleOn(checks);
        countsNoResetWhereDoublesEnd(checks);
        checks.end();
    }

    /** m and P are NaN then, which is not below a bound and not above one. */
    private static void countsNoResetWhereDoublesEnd(Checks checks) {
        for (int scripts = DoublingSquare.LAST_SCRIPTS; scripts <= DoublingSquare.LAST_SCRIPTS + 3; scripts++) {
            EchoBench bench = DoublingSquare.bench(scripts);
            checks.same("resets", bench.count(0, 2), 0);
            checks.same("samples", bench.count(0, 0), 82 + 3 * scripts);
            checks.same("held while the square was made", bench.count(0, 1), 45);
            checks.same("goes on for none", bench.count(0, 3), 0);
        }
    }

    private static void countsFromTheNextSampleOn(Checks checks) {
        EchoBench bench = new EchoBench();
        for (int call = 0; call < 20; call++) {
            bench.script(call, 99);
        }
        bench.filter(EchoBench.RLS, 1, 500);
        bench.watch(0, 1, 1);
        checks.same("no sample yet", bench.count(0, 0), 0);
        bench.feed(0, 1);
        checks.same("held at the first", bench.count(0, 1), 1);
        checks.same("goes on for one", bench.count(0, 3), 1);
        bench.feed(0, 0);
        checks.same("held at both", bench.count(0, 1), 2);
        checks.same("goes on for none", bench.count(0, 3), 0);
        for (int sample = 3; sample <= 20; sample++) {
            bench.feed(0, 0);
            checks.same("samples", bench.count(0, 0), sample);
            checks.same("held", bench.count(0, 1), 2);
            checks.same("resets, held samples aside", bench.count(0, 2), sample < 16 ? 0 : 1);
            checks.same("goes on for none", bench.count(0, 3), 0);
        }
        checks.throwsArgument("the least what", bench, () -> bench.count(0, Integer.MIN_VALUE));
        checks.throwsArgument("the greatest what", bench, () -> bench.count(0, Integer.MAX_VALUE));
        checks.throwsIndex("the least filter", bench, () -> bench.count(Integer.MIN_VALUE, 0));
        checks.throwsIndex("the greatest filter", bench, () -> bench.count(Integer.MAX_VALUE, 0));
    }
}
