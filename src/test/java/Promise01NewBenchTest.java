/** Promise 1 and the constants: a new bench has no filters and a path of 0. */
public final class Promise01NewBenchTest {
    public static void main(String[] args) {
        Checks checks = new Checks("promise 1");
        checks.same("NONE", EchoBench.NONE, -1);
        checks.same("LMS", EchoBench.LMS, 0);
        checks.same("NORMAL", EchoBench.NORMAL, 1);
        checks.same("SIGN", EchoBench.SIGN, 2);
        checks.same("RLS", EchoBench.RLS, 3);

        EchoBench bench = new EchoBench();
        checks.same("best", bench.best(), EchoBench.NONE);
        checks.same("microphone", bench.microphone(), 0.0);
        checks.same("batch 0", bench.batch(0), 0.0);
        checks.same("batch 1", bench.batch(1), 0.0);
        checks.throwsIndex("weight(0, 0)", bench, () -> bench.weight(0, 0));
        for (int place = 0; place < 8; place++) {
            checks.same("path " + place, bench.path(place, 0), 0);
        }
        checks.same("the first sample", bench.feed(1000, 7), 1);
        checks.same("a path of 0 echoes nothing", bench.microphone(), 7.0);

        EchoBench other = new EchoBench();
        other.filter(EchoBench.LMS, 1, 1);
        other.path(0, 100);
        checks.same("a bench is apart from another", bench.best(), EchoBench.NONE);
        checks.same("so is its path", bench.path(0, 0), 0);
        checks.same("so are its samples", other.feed(0, 0), 1);
        checks.end();
    }
}
