/** Promise 4: step. */
public final class Promise04StepTest {
    private static final Checks checks = new Checks("promise 4");

    public static void main(String[] args) {
        setsFromTheNextSample();
        setsWhatIsNotForgotten();
        keepsTheRangeOfTheKind();
        refuses();
        refusesTheFarthest();
        checks.end();
    }

    private static void setsFromTheNextSample() {
        EchoBench bench = new EchoBench();
        bench.filter(EchoBench.LMS, 1, 500);
        bench.feed(2, 8);
        checks.same("with the first step", bench.weight(0, 0), 0.5 * 8.0 * 2.0);
        checks.same("the one before", bench.step(0, 250), 500);
        checks.same("nothing learned anew", bench.weight(0, 0), 8.0);
        bench.feed(1, 4);
        checks.same("with the next step", bench.weight(0, 0), 8.0 + 0.25 * (4.0 - 8.0) * 1.0);
        checks.same("the next one before", bench.step(0, 250), 250);
    }

    private static void setsWhatIsNotForgotten() {
        EchoBench bench = new EchoBench();
        bench.filter(EchoBench.RLS, 1, 1000);
        bench.feed(0, 0);
        checks.same("nothing forgotten", bench.square(0, 0, 0), 100.0);
        bench.step(0, 500);
        bench.feed(0, 0);
        checks.same("half forgotten", bench.square(0, 0, 0), 200.0);
    }

    private static void keepsTheRangeOfTheKind() {
        EchoBench bench = new EchoBench();
        for (int kind = EchoBench.LMS; kind <= EchoBench.RLS; kind++) {
            bench.filter(kind, 1, 700);
        }
        for (int kind = EchoBench.LMS; kind <= EchoBench.RLS; kind++) {
            int filter = kind;
            int least = kind == EchoBench.RLS ? 500 : 1;
            int most = kind == EchoBench.RLS ? 1000 : 2000;
            checks.throwsArgument("too low", bench, () -> bench.step(filter, least - 1));
            checks.throwsArgument("too high", bench, () -> bench.step(filter, most + 1));
            checks.same("the least", bench.step(filter, least), 700);
            checks.same("the most", bench.step(filter, most), least);
            checks.same("the most stood", bench.step(filter, 700), most);
        }
    }

    private static void refuses() {
        EchoBench bench = new EchoBench();
        checks.throwsIndex("no filter at all", bench, () -> bench.step(0, 1));
        bench.filter(EchoBench.LMS, 1, 1);
        checks.throwsIndex("filter 1", bench, () -> bench.step(1, 1));
        checks.throwsIndex("filter -1", bench, () -> bench.step(-1, 1));
        checks.throwsIndex("both wrong", bench, () -> bench.step(1, 2001));
        checks.throwsIndex("filter 6", bench, () -> bench.step(6, 1));
        checks.same("it stays", bench.step(0, 2), 1);
    }

    private static void refusesTheFarthest() {
        EchoBench bench = new EchoBench();
        bench.filter(EchoBench.LMS, 1, 2000);
        bench.filter(EchoBench.RLS, 1, 500);
        for (int far : new int[] {Integer.MIN_VALUE, Integer.MAX_VALUE}) {
            checks.throwsIndex("filter", bench, () -> bench.step(far, 500));
            checks.throwsArgument("of an LMS", bench, () -> bench.step(0, far));
            checks.throwsArgument("of an RLS", bench, () -> bench.step(1, far));
        }
        checks.throwsArgument("below 0", bench, () -> bench.step(0, -1));
        checks.throwsArgument("the least of an LMS for an RLS", bench, () -> bench.step(1, 1));
        checks.throwsArgument("the most of an LMS for an RLS", bench, () -> bench.step(1, 2000));
        checks.same("it stays", bench.step(0, 1), 2000);
        checks.same("so does the other", bench.step(1, 1000), 500);
    }
}
