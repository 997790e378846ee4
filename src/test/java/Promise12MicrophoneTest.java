/** Promise 12: microphone. */
public final class Promise12MicrophoneTest {
    public static void main(String[] args) {
        Checks checks = new Checks("promise 12");
        EchoBench bench = new EchoBench();
        checks.same("without a sample", bench.microphone(), 0.0);
        bench.path(0, 1000);
        bench.path(1, -33);
        bench.path(7, 7);
        checks.same("still without one", bench.microphone(), 0.0);
        bench.feed(1000, -1000);
        checks.same("the most", bench.microphone(), -1000.0 + 1000 / 100.0 * 1000);
        bench.feed(0, 9);
        checks.same("talk and the echo of x 1", bench.microphone(), 9.0 + -33 / 100.0 * 1000);
        for (int sample = 0; sample < 5; sample++) {
            bench.feed(0, 0);
        }
        checks.same("silence", bench.microphone(), 0.0);
        bench.feed(11, 0);
        checks.same("in the order of the places", bench.microphone(),
                0.0 + 1000 / 100.0 * 11 + -33 / 100.0 * 0 + 7 / 100.0 * 1000);
        checks.same("asked again", bench.microphone(), bench.microphone());

        EchoBench all = new EchoBench();
        for (int place = 0; place < 8; place++) {
            all.path(place, 13 * place - 41);
        }
        double due = 0.0;
        for (int sample = 0; sample < 8; sample++) {
            all.feed(100 * sample - 333, 77);
        }
        due = 77.0;
        for (int place = 0; place < 8; place++) {
            due = due + (13 * place - 41) / 100.0 * (100 * (7 - place) - 333);
        }
        checks.same("all places, to the last digit", all.microphone(), due);
        staysAtTheLastSample(checks);
        checks.end();
    }

    private static void staysAtTheLastSample(Checks checks) {
        EchoBench bench = new EchoBench();
        bench.filter(EchoBench.LMS, 1, 1);
        bench.path(0, 100);
        checks.throwsArgument("a refused first sample", bench, () -> bench.feed(1001, 1));
        checks.same("there is none yet", bench.microphone(), 0.0);
        bench.feed(-1000, 1000);
        checks.same("talk and echo cancel", bench.microphone(), -1000.0 + 1000.0);
        bench.feed(3, 4);
        bench.path(0, -100);
        bench.begin(0);
        checks.throwsArgument("a refused sample", bench, () -> bench.feed(5, -1001));
        checks.throwsArgument("a refused script", bench, () -> bench.script(5, 101));
        checks.same("the last sample", bench.microphone(), 7.0);
        int v = bench.script(1, 2);
        checks.same("the last one of a script", bench.microphone(), 1000.0 - v);
        for (int call = 0; call < 19; call++) {
            v = bench.script(v, 100);
        }
        v = bench.script(v, 96);
        checks.throwsState("a sample too many", bench, () -> bench.feed(5, 5));
        checks.same("the last of all", bench.microphone(), 1000.0 - v);
    }
}
