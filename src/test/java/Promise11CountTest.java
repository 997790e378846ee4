/** Promise 11: count. */
public final class Promise11CountTest {
    private static final Checks checks = new Checks("promise 11");

    public static void main(String[] args) {
        EchoBench bench = new EchoBench();
        checks.throwsIndex("no filter at all", bench, () -> bench.count(0, 0));
        bench.feed(0, 0);
        bench.filter(EchoBench.RLS, 1, 500);
        bench.filter(EchoBench.LMS, 1, 500);
        for (int what = 0; what < 4; what++) {
            checks.same("at first", bench.count(0, what), 0);
        }
        for (int sample = 0; sample < 42; sample++) {
            bench.feed(0, 0);
        }
        checks.same("samples", bench.count(0, 0), 42);
        checks.same("held", bench.count(0, 1), 0);
        checks.same("resets", bench.count(0, 2), 3);
        checks.same("resets of an LMS", bench.count(1, 2), 0);

        bench.watch(0, 50, 6);
        bench.feed(0, 1);
        bench.feed(0, 0);
        checks.same("samples", bench.count(0, 0), 44);
        checks.same("held", bench.count(0, 1), 2);
        checks.same("holds for", bench.count(0, 3), 5);
        checks.same("resets", bench.count(0, 2), 3);
        checks.same("the other did not hold", bench.count(1, 1), 0);
        checks.same("nor goes on", bench.count(1, 3), 0);
        bench.begin(0);
        for (int what = 0; what < 4; what++) {
            checks.same("behind begin", bench.count(0, what), 0);
        }
        bench.feed(0, 0);
        checks.same("samples since", bench.count(0, 0), 1);
        checks.same("the other's samples", bench.count(1, 0), 45);

        checks.throwsArgument("what 4", bench, () -> bench.count(0, 4));
        checks.throwsArgument("what -1", bench, () -> bench.count(0, -1));
        checks.throwsIndex("filter 2", bench, () -> bench.count(2, 0));
        checks.throwsIndex("filter -1", bench, () -> bench.count(-1, 0));
        checks.throwsIndex("both wrong", bench, () -> bench.count(2, 4));
        checks.end();
    }
}
