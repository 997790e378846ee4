/** Promise 8: script. */
public final class Promise08ScriptTest {
    private static final Checks checks = new Checks("promise 8");

    public static void main(String[] args) {
        answersV();
        feedsTheSameAsFeed();
        refusesArguments();
        refusesTooMany();
        takesEveryV();
        fillsUpToTheLast();
        refusesTheFarthest();
        checks.end();
    }

    private static void answersV() {
        EchoBench bench = new EchoBench();
        checks.same("from 0", bench.script(0, 1), 1001);
        checks.same("from 2000", bench.script(2000, 1), (7 * 2000 + 1001) % 2001);
        checks.same("two steps", bench.script(0, 2), (7 * 1001 + 1001) % 2001);
        bench.path(0, 100);
        checks.same("to 1", bench.script(143, 1), (7 * 143 + 1001) % 2001);
        checks.same("v less 1000 is x", bench.microphone(), (7 * 143 + 1001) % 2001 - 1000);
    }

    private static void feedsTheSameAsFeed() {
        EchoBench scripted = filled();
        EchoBench fed = filled();
        int v = 1234;
        for (int i = 0; i < 100; i++) {
            v = (7 * v + 1001) % 2001;
            fed.feed(v - 1000, 0);
        }
        checks.same("v", scripted.script(1234, 100), v);
        checks.sameText("the benches", Look.at(scripted), Look.at(fed));
        checks.same("the samples", scripted.feed(0, 0), 101);
    }

    private static EchoBench filled() {
        EchoBench bench = new EchoBench();
        bench.path(0, 70);
        bench.path(2, -20);
        bench.filter(EchoBench.NORMAL, 4, 100);
        bench.filter(EchoBench.RLS, 3, 990);
        bench.watch(0, 60, 1);
        return bench;
    }

    private static void refusesArguments() {
        EchoBench bench = filled();
        bench.script(9, 3);
        checks.throwsArgument("v -1", bench, () -> bench.script(-1, 1));
        checks.throwsArgument("v 2001", bench, () -> bench.script(2001, 1));
        checks.throwsArgument("many 0", bench, () -> bench.script(0, 0));
        checks.throwsArgument("many -1", bench, () -> bench.script(0, -1));
        checks.throwsArgument("many 101", bench, () -> bench.script(0, 101));
        checks.throwsArgument("the greatest many", bench, () -> bench.script(0, Integer.MAX_VALUE));
        checks.same("nothing was fed", bench.feed(0, 0), 4);
    }

    private static void refusesTooMany() {
        EchoBench bench = filled();
        for (int i = 0; i < 19; i++) {
            bench.script(i, 100);
        }
        bench.feed(0, 0);
        checks.throwsState("2001 samples then", bench, () -> bench.script(0, 100));
        checks.throwsArgument("a wrong v, too many", bench, () -> bench.script(2001, 100));
        checks.same("2000 samples then", bench.script(0, 99), filled().script(0, 99));
        checks.throwsState("one more", bench, () -> bench.script(0, 1));
        checks.throwsArgument("many 101 then", bench, () -> bench.script(0, 101));
        checks.throwsState("one more fed", bench, () -> bench.feed(0, 0));
    }

    /** Every v there is; behind two of them v is 0 and 2000, and x at the ends of its range. */
    private static void takesEveryV() {
        for (int v = 0; v <= 2000; v++) {
            EchoBench bench = new EchoBench();
            bench.path(0, 100);
            int due = v * 7 + 1001;
            while (due > 2000) {
                due -= 2001;
            }
            checks.same("v behind " + v, bench.script(v, 1), due);
            checks.same("x behind " + v, bench.microphone(), due - 1000.0);
        }
    }

    private static void fillsUpToTheLast() {
        for (int most : new int[] {1, 99, 100}) {
            EchoBench bench = new EchoBench();
            bench.filter(EchoBench.LMS, 1, 1);
            for (int call = 0; call < 19; call++) {
                bench.script(call, 100);
            }
            for (int sample = most; sample < 100; sample++) {
                bench.feed(sample, 0);
            }
            if (most < 100) {
                checks.throwsState("2001 samples then", bench, () -> bench.script(5, most + 1));
            }
            int v = 5;
            for (int i = 0; i < most; i++) {
                v = (7 * v + 1001) % 2001;
            }
            checks.same("2000 samples then", bench.script(5, most), v);
            checks.same("all were heard", bench.count(0, 0), 2000);
            checks.throwsState("one more", bench, () -> bench.script(5, 1));
            checks.throwsState("a hundred more", bench, () -> bench.script(5, 100));
        }
    }

    private static void refusesTheFarthest() {
        EchoBench bench = filled();
        for (int far : new int[] {Integer.MIN_VALUE, Integer.MAX_VALUE}) {
            checks.throwsArgument("v", bench, () -> bench.script(far, 1));
            checks.throwsArgument("many", bench, () -> bench.script(0, far));
            checks.throwsArgument("both", bench, () -> bench.script(far, far));
        }
        checks.same("nothing was fed", bench.feed(0, 0), 1);
    }
}
