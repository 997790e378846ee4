/** Promise 6: begin. */
public final class Promise06BeginTest {
    private static final Checks checks = new Checks("promise 6");

    public static void main(String[] args) {
        makesAFilterAsAtFirst();
        leavesTheRest();
        makesASquareAsAtFirst();
        refuses();
        beginsAtAnyTime();
        checks.end();
    }

    private static void makesAFilterAsAtFirst() {
        for (int kind = EchoBench.LMS; kind <= EchoBench.RLS; kind++) {
            EchoBench bench = new EchoBench();
            bench.filter(kind, 2, 700);
            String first = Look.at(bench);
            bench.watch(0, 300, 4);
            bench.path(0, 100);
            bench.feed(10, 0);
            bench.feed(20, 1);
            bench.feed(1, 900);
            checks.same("it goes on holding", bench.count(0, 3), 4);
            checks.same("it held", bench.count(0, 1), 1);
            bench.begin(0);
            checks.same("the power", bench.of(0, 3), 0.0);
            checks.same("the output", bench.of(0, 0), 0.0);
            checks.same("the error", bench.of(0, 1), 0.0);
            for (int what = 0; what < 4; what++) {
                checks.same("count " + what, bench.count(0, what), 0);
            }
            bench.path(0, 0);
            checks.sameText("what is asked of the filter", filterPart(bench), first.substring(first.indexOf('\n')));
        }
    }

    private static String filterPart(EchoBench bench) {
        String all = Look.at(bench);
        return all.substring(all.indexOf('\n'));
    }

    private static void leavesTheRest() {
        EchoBench bench = new EchoBench();
        bench.filter(EchoBench.LMS, 2, 500);
        bench.filter(EchoBench.LMS, 2, 500);
        bench.watch(0, 200, 5);
        bench.path(1, 100);
        bench.feed(6, 0);
        bench.begin(0);
        checks.same("the microphone", bench.microphone(), 0.0);
        bench.feed(2, 0);
        checks.same("the path and the x before stay", bench.microphone(), 6.0);
        checks.same("so it learns by x 1", bench.weight(0, 1), 0.5 * 6.0 * 6.0);
        checks.same("with its step", bench.weight(0, 0), 0.5 * 6.0 * 2.0);
        checks.same("its samples", bench.count(0, 0), 1);
        checks.same("the other's samples", bench.count(1, 0), 2);
        bench.feed(2, 900);
        checks.same("its watch stays", bench.count(0, 1), 1);
        checks.same("its tail stays", bench.count(0, 3), 5);
        bench.begin(0);
        checks.same("its step stays", bench.step(0, 1), 500);
        checks.same("all samples", bench.feed(0, 0), 4);
        checks.same("it did not go on holding", bench.count(0, 1), 0);
        checks.same("one error only", bench.of(0, 3), bench.of(0, 1) * bench.of(0, 1));
    }

    private static void makesASquareAsAtFirst() {
        EchoBench bench = new EchoBench();
        bench.filter(EchoBench.RLS, 2, 500);
        for (int sample = 0; sample < 14; sample++) {
            bench.feed(0, 0);
        }
        checks.same("a reset", bench.count(0, 2), 1);
        bench.feed(3, 3);
        bench.feed(4, 5);
        checks.holds("the square has moved", bench.square(0, 0, 1) != 0.0);
        bench.begin(0);
        checks.same("resets", bench.count(0, 2), 0);
        checks.same("0 0", bench.square(0, 0, 0), 100.0);
        checks.same("0 1", bench.square(0, 0, 1), 0.0);
        checks.same("1 0", bench.square(0, 1, 0), 0.0);
        checks.same("1 1", bench.square(0, 1, 1), 100.0);
    }

    private static void refuses() {
        EchoBench bench = new EchoBench();
        checks.throwsIndex("no filter at all", bench, () -> bench.begin(0));
        bench.filter(EchoBench.LMS, 1, 1);
        bench.feed(1000, 1000);
        checks.throwsIndex("filter 1", bench, () -> bench.begin(1));
        checks.throwsIndex("filter -1", bench, () -> bench.begin(-1));
        checks.throwsIndex("the greatest filter", bench, () -> bench.begin(Integer.MAX_VALUE));
    }

    private static void beginsAtAnyTime() {
        EchoBench bench = new EchoBench();
        bench.filter(EchoBench.NORMAL, 2, 500);
        String first = Look.at(bench);
        bench.begin(0);
        checks.sameText("ahead of any sample", Look.at(bench), first);
        bench.watch(0, 100, 20);
        bench.feed(4, 5);
        checks.same("it goes on holding", bench.count(0, 3), 20);
        bench.begin(0);
        bench.begin(0);
        bench.feed(3, 2);
        checks.same("begun twice, it holds no more", bench.count(0, 1), 0);
        checks.same("so it learns", bench.weight(0, 1), 0.5 * 2.0 * 4.0 / 26.0);
        int v = 0;
        for (int call = 0; call < 19; call++) {
            v = bench.script(v, 100);
        }
        bench.script(v, 98);
        bench.begin(0);
        checks.same("behind all 2000 samples", bench.count(0, 0), 0);
        checks.same("its power", bench.of(0, 3), 0.0);
        checks.throwsState("there is still no more", bench, () -> bench.feed(0, 0));
    }
}
