/** Promise 2: path. */
public final class Promise02PathTest {
    private static final Checks checks = new Checks("promise 2");

    public static void main(String[] args) {
        answersTheOneBefore();
        countsFromTheNextSample();
        echoesEachPlace();
        refuses();
        refusesTheFarthest();
        checks.end();
    }

    private static void answersTheOneBefore() {
        EchoBench bench = new EchoBench();
        for (int place = 0; place < 8; place++) {
            checks.same("first", bench.path(place, 1000 - place), 0);
        }
        for (int place = 0; place < 8; place++) {
            checks.same("again", bench.path(place, -1000), 1000 - place);
            checks.same("a third time", bench.path(place, 0), -1000);
        }
    }

    private static void countsFromTheNextSample() {
        EchoBench bench = new EchoBench();
        bench.path(0, 100);
        bench.feed(40, 0);
        bench.path(0, 200);
        checks.same("the last sample stays", bench.microphone(), 40.0);
        bench.feed(40, 0);
        checks.same("the next one changes", bench.microphone(), 80.0);
    }

    private static void echoesEachPlace() {
        for (int place = 0; place < 8; place++) {
            EchoBench bench = new EchoBench();
            bench.path(place, -250);
            for (int sample = 0; sample < 10; sample++) {
                bench.feed(sample == 0 ? 4 : 0, 3);
                checks.same("place " + place + " sample " + sample, bench.microphone(),
                        sample == place ? 3.0 - 10.0 : 3.0);
            }
        }
    }

    private static void refuses() {
        EchoBench bench = new EchoBench();
        bench.path(0, 5);
        bench.path(7, 6);
        bench.filter(EchoBench.LMS, 8, 1);
        checks.throwsIndex("place -1", bench, () -> bench.path(-1, 0));
        checks.throwsIndex("place 8", bench, () -> bench.path(8, 0));
        checks.throwsIndex("the least place", bench, () -> bench.path(Integer.MIN_VALUE, 0));
        checks.throwsIndex("both wrong", bench, () -> bench.path(8, 1001));
        checks.throwsArgument("1001", bench, () -> bench.path(0, 1001));
        checks.throwsArgument("-1001", bench, () -> bench.path(7, -1001));
        checks.same("place 0 stays", bench.path(0, 0), 5);
        checks.same("place 7 stays", bench.path(7, 0), 6);
    }

    private static void refusesTheFarthest() {
        EchoBench bench = new EchoBench();
        bench.path(7, -1000);
        for (int far : new int[] {Integer.MIN_VALUE, Integer.MAX_VALUE}) {
            checks.throwsIndex("place", bench, () -> bench.path(far, 0));
            checks.throwsArgument("hundredths", bench, () -> bench.path(7, far));
            checks.throwsIndex("both", bench, () -> bench.path(far, far));
        }
        checks.same("the least stays", bench.path(7, 1000), -1000);
        checks.same("the most", bench.path(7, 1000), 1000);
    }
}
