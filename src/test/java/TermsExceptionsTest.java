/** Terms, exceptions: the one named first is thrown, and a call that throws changes nothing. */
public final class TermsExceptionsTest {
    private static final Checks checks = new Checks("terms, exceptions");
    private static final int LEAST = Integer.MIN_VALUE;
    private static final int MOST = Integer.MAX_VALUE;

    public static void main(String[] args) {
        throwsTheOneNamedFirst();
        throwsTheOneNamedFirstWhenFull();
        leavesWhatIsSeenAsItWas();
        leavesWhatComesAsItWas();
        checks.end();
    }

    private static void throwsTheOneNamedFirst() {
        EchoBench bench = new EchoBench();
        bench.filter(EchoBench.LMS, 2, 1);
        for (int none : new int[] {LEAST, -1, 1, 5, 6, MOST}) {
            checks.throwsIndex("step", bench, () -> bench.step(none, 0));
            checks.throwsIndex("watch", bench, () -> bench.watch(none, -1, 0));
            checks.throwsIndex("watch", bench, () -> bench.watch(none, 0, 21));
            checks.throwsIndex("of", bench, () -> bench.of(none, 4));
            checks.throwsIndex("count", bench, () -> bench.count(none, -1));
            checks.throwsIndex("square", bench, () -> bench.square(none, 0, 0));
        }
        for (int none : new int[] {LEAST, -1, 8, MOST}) {
            checks.throwsIndex("path", bench, () -> bench.path(none, 1001));
            checks.throwsIndex("square of no RLS, row", bench, () -> bench.square(0, none, 0));
            checks.throwsIndex("square of no RLS, column", bench, () -> bench.square(0, 0, none));
        }
    }

    private static void throwsTheOneNamedFirstWhenFull() {
        EchoBench bench = Twins.made();
        fill(bench);
        checks.throwsState("a seventh filter", bench, () -> bench.filter(EchoBench.LMS, 1, 1));
        checks.throwsArgument("of no kind", bench, () -> bench.filter(4, 1, 1));
        checks.throwsArgument("without taps", bench, () -> bench.filter(EchoBench.LMS, 0, 1));
        checks.throwsArgument("with a step too low for RLS", bench, () -> bench.filter(EchoBench.RLS, 1, 499));
        checks.throwsState("one sample more", bench, () -> bench.feed(0, 0));
        checks.throwsArgument("x too low", bench, () -> bench.feed(-1001, 0));
        checks.throwsArgument("talk too high", bench, () -> bench.feed(0, 1001));
        checks.throwsState("one scripted more", bench, () -> bench.script(0, 1));
        checks.throwsArgument("v too low", bench, () -> bench.script(-1, 1));
        checks.throwsArgument("many too high", bench, () -> bench.script(0, 101));
    }

    private static void fill(EchoBench bench) {
        for (int call = 0; call < 20; call++) {
            bench.script(100 * call, 100);
        }
    }

    private static void leavesWhatIsSeenAsItWas() {
        EchoBench bench = Twins.made();
        for (int number = 0; number < 20; number++) {
            Twins.goOn(bench, number);
        }
        String seen = Look.at(bench);
        refuseAll(bench);
        checks.sameText("behind all that is refused", Look.at(bench), seen);
    }

    /** Steps, watches, tails, x and how many samples there were are seen by what comes behind. */
    private static void leavesWhatComesAsItWas() {
        EchoBench refused = Twins.made();
        EchoBench other = Twins.made();
        for (int number = 0; number < 60; number++) {
            refuseAll(refused);
            Twins.goOn(refused, number);
            Twins.goOn(other, number);
            checks.sameText("at " + number, Look.at(refused), Look.at(other));
        }
        refuseAll(refused);
        checks.same("the samples", refused.feed(0, 0), other.feed(0, 0));
        for (int place = 0; place < 8; place++) {
            checks.same("the path", refused.path(place, 0), other.path(place, 0));
        }
        for (int filter = 0; filter < 6; filter++) {
            checks.same("the step", refused.step(filter, 700), other.step(filter, 700));
        }
    }

    /** One wrong argument a call, the others being such as would change the bench; six filters stand. */
    private static void refuseAll(EchoBench bench) {
        for (int wrong : new int[] {LEAST, -1, 6, MOST}) {
            index(() -> bench.step(wrong, 777));
            index(() -> bench.watch(wrong, 7, 7));
            index(() -> bench.begin(wrong));
            index(() -> bench.weight(wrong, 0));
            index(() -> bench.of(wrong, 0));
            index(() -> bench.count(wrong, 0));
            index(() -> bench.square(wrong, 0, 0));
            index(() -> bench.batch(wrong));
            argument(() -> bench.of(0, wrong));
            argument(() -> bench.count(0, wrong));
            argument(() -> bench.filter(wrong, 1, 700));
        }
        for (int filter = 0; filter < 6; filter++) {
            refuseOfFilter(bench, filter);
        }
        for (int wrong : new int[] {LEAST, -1001, 1001, MOST}) {
            argument(() -> bench.path(3, wrong));
            argument(() -> bench.feed(wrong, 5));
            argument(() -> bench.feed(5, wrong));
        }
        for (int wrong : new int[] {LEAST, -1, 2001, MOST}) {
            argument(() -> bench.script(wrong, 5));
        }
        for (int wrong : new int[] {LEAST, -1, 0, 101, MOST}) {
            argument(() -> bench.script(5, wrong));
        }
        for (int wrong : new int[] {LEAST, -1, 8, MOST}) {
            index(() -> bench.path(wrong, 7));
        }
        state(() -> bench.filter(EchoBench.NORMAL, 2, 700));
    }

    private static void refuseOfFilter(EchoBench bench, int filter) {
        int taps = 1 + filter % 4;
        boolean rls = filter % 4 == EchoBench.RLS;
        for (int wrong : new int[] {LEAST, -1, taps, MOST}) {
            index(() -> bench.weight(filter, wrong));
            index(() -> bench.square(filter, wrong, 0));
            index(() -> bench.square(filter, 0, wrong));
        }
        for (int wrong : new int[] {LEAST, rls ? 499 : 0, rls ? 1001 : 2001, MOST}) {
            argument(() -> bench.step(filter, wrong));
            argument(() -> bench.filter(filter % 4, 1, wrong));
        }
        for (int wrong : new int[] {LEAST, 0, rls ? 5 : 9, MOST}) {
            argument(() -> bench.filter(filter % 4, wrong, 700));
        }
        for (int wrong : new int[] {LEAST, -1, 1001, MOST}) {
            argument(() -> bench.watch(filter, wrong, 3));
        }
        for (int wrong : new int[] {LEAST, -1, 21, MOST}) {
            argument(() -> bench.watch(filter, 3, wrong));
        }
        if (!rls) {
            state(() -> bench.square(filter, 0, 0));
        }
    }

    private static void index(Runnable call) {
        refused(IndexOutOfBoundsException.class, call);
    }

    private static void argument(Runnable call) {
        refused(IllegalArgumentException.class, call);
    }

    private static void state(Runnable call) {
        refused(IllegalStateException.class, call);
    }

    private static void refused(Class<?> due, Runnable call) {
        Class<?> got = null;
        try {
            call.run();
        } catch (RuntimeException e) {
            got = e.getClass();
        }
        checks.holds("due is " + due + ", got " + got, got == due);
    }
}
