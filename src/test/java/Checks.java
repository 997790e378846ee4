/** Counts and prints the answers that are not as due; NaN is as due where NaN is. */
final class Checks {
    private final String title;
    private int checked = 0;
    private int wrong = 0;

    Checks(String title) {
        this.title = title;
    }

    void same(String what, double got, double due) {
        checked++;
        if (got != due && !(Double.isNaN(got) && Double.isNaN(due))) {
            wrong++;
            System.out.println(title + ": " + what + " answered " + got + ", due is " + due);
        }
    }

    void holds(String what, boolean it) {
        checked++;
        if (!it) {
            wrong++;
            System.out.println(title + ": " + what + " does not hold");
        }
    }

    void sameText(String what, String got, String due) {
        checked++;
        if (!got.equals(due)) {
            wrong++;
            System.out.println(title + ": " + what + " was\n  " + got + "\ndue is\n  " + due);
        }
    }

    /** The call must throw this very exception, and the bench must answer as before. */
    void throwsIndex(String what, EchoBench bench, Runnable call) {
        fails(what, bench, IndexOutOfBoundsException.class, call);
    }

    void throwsArgument(String what, EchoBench bench, Runnable call) {
        fails(what, bench, IllegalArgumentException.class, call);
    }

    void throwsState(String what, EchoBench bench, Runnable call) {
        fails(what, bench, IllegalStateException.class, call);
    }

    private void fails(String what, EchoBench bench, Class<?> due, Runnable call) {
        String before = Look.at(bench);
        Class<?> got = null;
        try {
            call.run();
        } catch (RuntimeException e) {
            got = e.getClass();
        }
        holds(what + " throws " + due.getSimpleName() + " (got " + got + ")", got == due);
        sameText("the bench behind " + what, Look.at(bench), before);
    }

    void end() {
        System.out.println(title + ": " + checked + " checked, " + wrong + " wrong");
        if (checked == 0 || wrong != 0) {
            System.exit(1);
        }
    }
}
