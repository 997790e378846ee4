/** Promise 15: best. */
public final class Promise15BestTest {
    public static void main(String[] args) {
        Checks checks = new Checks("promise 15");
        EchoBench bench = new EchoBench();
        checks.same("without filters", bench.best(), EchoBench.NONE);
        bench.path(0, 300);
        bench.path(3, 100);
        bench.filter(EchoBench.SIGN, 4, 1000);
        checks.same("the only one", bench.best(), 0);
        bench.filter(EchoBench.SIGN, 1, 1000);
        checks.same("fewer taps are less off here", bench.best(), 1);
        bench.filter(EchoBench.SIGN, 2, 1000);
        checks.same("of several the lowest", bench.best(), 1);
        bench.filter(EchoBench.SIGN, 1, 2000);
        bench.feed(1, 0);
        checks.same("who learns more", bench.best(), 3);
        bench.path(0, 100);
        checks.same("the path told last", bench.best(), 1);
        bench.path(0, 0);
        bench.begin(2);
        checks.same("who began again", bench.best(), 2);
        bench.begin(1);
        checks.same("of several the lowest", bench.best(), 1);
        bench.filter(EchoBench.SIGN, 1, 1);
        checks.same("a later one is as good", bench.best(), 1);
        bench.path(3, 0);
        bench.begin(0);
        checks.same("the first", bench.best(), 0);
        takesTheLowestOfSix(checks);
        takesNoOtherForOneThatIsNotLessOff(checks);
        checks.end();
    }

    /** How far off is NaN then: it is not less than another, and no other is less than it. */
    private static void takesNoOtherForOneThatIsNotLessOff(Checks checks) {
        EchoBench bench = new EchoBench();
        bench.filter(EchoBench.SIGN, 1, 1000);
        int lost = DoublingSquare.makeFilter(bench);
        DoublingSquare.reach(bench::feed);
        DoublingSquare.grow(bench, DoublingSquare.LAST_SCRIPTS + 1);
        bench.begin(0);
        bench.path(0, 1000);
        checks.same("the other is NaN off", bench.of(lost, 2), Double.NaN);
        checks.same("however far the first is off", bench.best(), 0);
        bench.filter(EchoBench.SIGN, 1, 1000);
        checks.same("a later one is as good as the first", bench.best(), 0);
        bench.watch(0, 1, 0);
        bench.feed(1, 1000);
        checks.same("a later one is less off than the first", bench.best(), 2);

        EchoBench alone = DoublingSquare.bench(DoublingSquare.LAST_SCRIPTS + 1);
        checks.same("the only one", alone.best(), 0);
        alone.filter(EchoBench.LMS, 1, 1);
        checks.same("another that is not less than NaN", alone.best(), 0);
        alone.path(0, 1000);
        checks.same("nor then", alone.best(), 0);
    }

    private static void takesTheLowestOfSix(Checks checks) {
        EchoBench bench = new EchoBench();
        bench.feed(5, 5);
        checks.same("samples alone make no filter", bench.best(), EchoBench.NONE);
        bench.path(0, 600);
        for (int filter = 0; filter < 6; filter++) {
            bench.filter(EchoBench.SIGN, 1, 1000);
            checks.same("all are as far off", bench.best(), 0);
        }
        for (int filter = 0; filter < 5; filter++) {
            bench.watch(filter, 1, 0);
        }
        bench.feed(1, 0);
        checks.same("the last one alone has learned", bench.best(), 5);
        bench.watch(3, 0, 0);
        bench.watch(5, 1, 0);
        bench.feed(1, 0);
        checks.same("another is as good, and lower", bench.best(), 3);
        checks.throwsState("a refused filter", bench, () -> bench.filter(EchoBench.LMS, 1, 1));
        bench.path(0, 0);
        checks.same("not off at all, the lowest", bench.best(), 0);
    }
}
