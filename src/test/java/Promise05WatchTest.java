/** Promise 5: watch, and when a filter holds. */
public final class Promise05WatchTest {
    private static final Checks checks = new Checks("promise 5");

    public static void main(String[] args) {
        holdsAboveTheWatchOnly();
        looksAtItsOwnTapsOnly();
        goesOnHolding();
        takesTheTailToldThen();
        learnsNothingWhileItHolds();
        refuses();
        refusesTheFarthest();
        checks.end();
    }

    private static EchoBench watched(int taps, int hundredths, int tail) {
        EchoBench bench = new EchoBench();
        bench.filter(EchoBench.LMS, taps, 1);
        bench.watch(0, hundredths, tail);
        return bench;
    }

    private static void holdsAboveTheWatchOnly() {
        EchoBench bench = watched(1, 150, 0);
        bench.feed(10, 15);
        checks.same("at the watch", bench.count(0, 1), 0);
        bench.feed(10, 16);
        checks.same("above it", bench.count(0, 1), 1);
        bench.feed(-10, -16);
        checks.same("either way", bench.count(0, 1), 2);
        bench.feed(-10, 15);
        checks.same("at it, either way", bench.count(0, 1), 2);
        bench.feed(0, 0);
        checks.same("silence", bench.count(0, 1), 2);
        bench.feed(0, 1);
        checks.same("talk alone", bench.count(0, 1), 3);

        EchoBench never = watched(1, 0, 20);
        never.feed(0, 1000);
        checks.same("a watch of 0", never.count(0, 1), 0);
        EchoBench untold = new EchoBench();
        untold.filter(EchoBench.RLS, 1, 500);
        untold.feed(0, 1000);
        checks.same("no watch told", untold.count(0, 1), 0);

        EchoBench least = watched(1, 1, 0);
        least.feed(100, 1);
        checks.same("at the least watch", least.count(0, 1), 0);
        least.feed(100, 2);
        checks.same("above the least watch", least.count(0, 1), 1);

        EchoBench quiet = watched(1, 40, 0);
        quiet.path(0, 50);
        quiet.feed(1, 0);
        checks.same("a microphone below 1", quiet.count(0, 1), 1);
        quiet.feed(-1, 0);
        checks.same("the same, either way", quiet.count(0, 1), 2);

        EchoBench most = watched(1, 1000, 20);
        most.path(0, 1000);
        most.feed(100, 0);
        checks.same("at the most watch", most.count(0, 1), 0);
        most.feed(100, 1);
        checks.same("above the most watch", most.count(0, 1), 1);
        checks.same("with the most tail", most.count(0, 3), 20);
    }

    private static void looksAtItsOwnTapsOnly() {
        EchoBench bench = watched(2, 100, 0);
        bench.filter(EchoBench.LMS, 3, 1);
        bench.watch(1, 100, 0);
        bench.feed(-50, 0);
        bench.feed(20, 30);
        checks.same("x 1 counts, either way", bench.count(0, 1), 0);
        bench.feed(0, 30);
        checks.same("x 2 does not with 2 taps", bench.count(0, 1), 1);
        checks.same("x 2 does with 3 taps", bench.count(1, 1), 0);
    }

    private static void goesOnHolding() {
        EchoBench bench = watched(1, 100, 2);
        bench.feed(10, 11);
        checks.same("goes on for", bench.count(0, 3), 2);
        bench.feed(10, 0);
        checks.same("goes on for", bench.count(0, 3), 1);
        bench.feed(10, 11);
        checks.same("the last such one counts", bench.count(0, 3), 2);
        bench.feed(10, 0);
        bench.feed(10, 0);
        checks.same("no more", bench.count(0, 3), 0);
        checks.same("held", bench.count(0, 1), 5);
        bench.feed(10, 0);
        checks.same("held no more", bench.count(0, 1), 5);
    }

    private static void takesTheTailToldThen() {
        EchoBench bench = watched(1, 100, 3);
        bench.feed(10, 11);
        bench.watch(0, 0, 0);
        checks.same("whatever is told later", bench.count(0, 3), 3);
        bench.feed(10, 0);
        checks.same("it goes on", bench.count(0, 3), 2);
        checks.same("it held", bench.count(0, 1), 2);
        bench.watch(0, 100, 20);
        checks.same("not longer either", bench.count(0, 3), 2);
        bench.watch(0, 100, 1);
        bench.feed(10, 11);
        checks.same("a later one takes the later tail, though shorter", bench.count(0, 3), 1);
        bench.watch(0, 100, 0);
        bench.feed(10, 11);
        checks.same("or none", bench.count(0, 3), 0);
    }

    private static void learnsNothingWhileItHolds() {
        EchoBench bench = new EchoBench();
        for (int kind = EchoBench.LMS; kind <= EchoBench.RLS; kind++) {
            bench.filter(kind, 2, 500);
            bench.watch(kind, 100, 1);
        }
        bench.feed(2, 20);
        bench.feed(4, 1);
        for (int kind = EchoBench.LMS; kind <= EchoBench.RLS; kind++) {
            checks.same("weight 0", bench.weight(kind, 0), 0.0);
            checks.same("weight 1", bench.weight(kind, 1), 0.0);
            checks.same("its error stands", bench.of(kind, 1), 1.0);
            checks.same("its errors count", bench.of(kind, 3), (400.0 + 1.0) / 2);
            checks.same("its samples count", bench.count(kind, 0), 2);
        }
        checks.same("the square", bench.square(EchoBench.RLS, 0, 0), 100.0);
        checks.same("the square", bench.square(EchoBench.RLS, 0, 1), 0.0);
        bench.feed(4, 1);
        checks.same("it learns again", bench.weight(EchoBench.LMS, 0), 0.5 * 1.0 * 4.0);
    }

    private static void refuses() {
        EchoBench bench = new EchoBench();
        checks.throwsIndex("no filter at all", bench, () -> bench.watch(0, 0, 0));
        bench.filter(EchoBench.LMS, 1, 1);
        bench.watch(0, 100, 7);
        checks.throwsIndex("filter 1", bench, () -> bench.watch(1, 0, 0));
        checks.throwsIndex("filter -1", bench, () -> bench.watch(-1, 0, 0));
        checks.throwsIndex("both wrong", bench, () -> bench.watch(1, 1001, 21));
        checks.throwsArgument("watch 1001", bench, () -> bench.watch(0, 1001, 0));
        checks.throwsArgument("watch -1", bench, () -> bench.watch(0, -1, 0));
        checks.throwsArgument("tail 21", bench, () -> bench.watch(0, 0, 21));
        checks.throwsArgument("tail -1", bench, () -> bench.watch(0, 0, -1));
        bench.feed(10, 11);
        checks.same("the watch stays", bench.count(0, 1), 1);
        checks.same("the tail stays", bench.count(0, 3), 7);
    }

    private static void refusesTheFarthest() {
        EchoBench bench = watched(1, 1000, 20);
        for (int far : new int[] {Integer.MIN_VALUE, Integer.MAX_VALUE}) {
            checks.throwsIndex("filter", bench, () -> bench.watch(far, 0, 0));
            checks.throwsArgument("watch", bench, () -> bench.watch(0, far, 0));
            checks.throwsArgument("tail", bench, () -> bench.watch(0, 0, far));
            checks.throwsArgument("both", bench, () -> bench.watch(0, far, far));
        }
        bench.feed(1, 10);
        checks.same("the watch stays", bench.count(0, 1), 0);
        bench.feed(1, 11);
        checks.same("the tail stays", bench.count(0, 3), 20);
    }
}
