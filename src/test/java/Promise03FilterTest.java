/** Promise 3: filter. */
public final class Promise03FilterTest {
    private static final Checks checks = new Checks("promise 3");

    public static void main(String[] args) {
        numbersFromZero();
        takesTheEdges();
        refusesArguments();
        refusesASeventh();
        refusesTheFarthest();
        checks.end();
    }

    private static void numbersFromZero() {
        EchoBench bench = new EchoBench();
        for (int number = 0; number < 6; number++) {
            checks.same("number", bench.filter(number % 4, 1 + number % 4, 500), number);
            checks.same("no sample yet", bench.count(number, 0), 0);
            bench.feed(1, 0);
        }
        for (int number = 0; number < 6; number++) {
            checks.same("samples since it was made", bench.count(number, 0), 6 - number);
        }
    }

    private static void takesTheEdges() {
        for (int kind = EchoBench.LMS; kind <= EchoBench.RLS; kind++) {
            boolean rls = kind == EchoBench.RLS;
            int mostTaps = rls ? 4 : 8;
            int leastStep = rls ? 500 : 1;
            int mostStep = rls ? 1000 : 2000;
            EchoBench bench = new EchoBench();
            checks.same("the least", bench.filter(kind, 1, leastStep), 0);
            checks.same("the most", bench.filter(kind, mostTaps, mostStep), 1);
            for (int tap = 0; tap < mostTaps; tap++) {
                checks.same("a weight at first", bench.weight(1, tap), 0.0);
            }
            checks.throwsIndex("a tap too many", bench, () -> bench.weight(1, mostTaps));
            checks.same("the step of the first", bench.step(0, mostStep), leastStep);
            checks.same("the step of the second", bench.step(1, leastStep), mostStep);
        }
    }

    private static void refusesArguments() {
        EchoBench bench = new EchoBench();
        checks.throwsArgument("kind -1", bench, () -> bench.filter(-1, 1, 500));
        checks.throwsArgument("kind 4", bench, () -> bench.filter(4, 1, 500));
        for (int kind = EchoBench.LMS; kind <= EchoBench.RLS; kind++) {
            int one = kind;
            boolean rls = kind == EchoBench.RLS;
            checks.throwsArgument("no taps", bench, () -> bench.filter(one, 0, 500));
            checks.throwsArgument("taps below 0", bench, () -> bench.filter(one, -1, 500));
            checks.throwsArgument("too many taps", bench, () -> bench.filter(one, rls ? 5 : 9, 500));
            checks.throwsArgument("step too low", bench, () -> bench.filter(one, 1, rls ? 499 : 0));
            checks.throwsArgument("step too high", bench, () -> bench.filter(one, 1, rls ? 1001 : 2001));
            checks.throwsArgument("the greatest taps", bench, () -> bench.filter(one, Integer.MAX_VALUE, 500));
        }
        checks.same("none was made", bench.filter(EchoBench.RLS, 1, 500), 0);
    }

    private static void refusesASeventh() {
        EchoBench bench = new EchoBench();
        for (int number = 0; number < 6; number++) {
            bench.filter(EchoBench.SIGN, 2, 3);
        }
        checks.throwsState("a seventh", bench, () -> bench.filter(EchoBench.LMS, 1, 1));
        checks.throwsArgument("a wrong seventh", bench, () -> bench.filter(EchoBench.LMS, 9, 1));
        checks.throwsIndex("its weight", bench, () -> bench.weight(6, 0));
    }

    private static void refusesTheFarthest() {
        EchoBench bench = new EchoBench();
        for (int far : new int[] {Integer.MIN_VALUE, Integer.MAX_VALUE}) {
            checks.throwsArgument("kind", bench, () -> bench.filter(far, 1, 500));
            for (int kind = EchoBench.LMS; kind <= EchoBench.RLS; kind++) {
                int one = kind;
                checks.throwsArgument("taps", bench, () -> bench.filter(one, far, 500));
                checks.throwsArgument("step", bench, () -> bench.filter(one, 1, far));
            }
        }
        checks.same("none has a number", bench.filter(EchoBench.SIGN, 8, 2000), 0);
        checks.throwsArgument("RLS of 8 taps", bench, () -> bench.filter(EchoBench.RLS, 8, 500));
        checks.throwsArgument("RLS of a step of 2000", bench, () -> bench.filter(EchoBench.RLS, 4, 2000));
        checks.same("the next number", bench.filter(EchoBench.RLS, 4, 1000), 1);
    }
}
