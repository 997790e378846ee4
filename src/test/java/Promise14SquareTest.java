/** Promise 14: square. */
public final class Promise14SquareTest {
    private static final Checks checks = new Checks("promise 14");

    public static void main(String[] args) {
        tellsTheSquare();
        tellsAHugeSquare();
        tellsASquareUpToTheEndOfDoubles();
        tellsASquareBeyondTheDoubles();
        refuses();
        tellsEachPlaceThereIs();
        asksForThePlaceAheadOfTheKind();
        checks.end();
    }

    private static void tellsTheSquare() {
        EchoBench bench = new EchoBench();
        bench.filter(EchoBench.RLS, 4, 1000);
        for (int row = 0; row < 4; row++) {
            for (int column = 0; column < 4; column++) {
                checks.same("at first", bench.square(0, row, column), row == column ? 100.0 : 0.0);
            }
        }
        bench.feed(1, 0);
        double seen = 100.0 - 100.0 / 101.0 * 100.0;
        checks.same("what was excited", bench.square(0, 0, 0), seen);
        checks.same("what was not", bench.square(0, 3, 3), 100.0);
        bench.feed(2, 0);
        // g is (2 seen, 100, 0, 0)
        double m = 1.0 + 2.0 * (seen * 2.0) + 100.0;
        checks.same("row 0, column 1", bench.square(0, 0, 1), 0.0 - seen * 2.0 / m * 100.0);
        checks.same("row 1, column 0", bench.square(0, 1, 0), 0.0 - 100.0 / m * (seen * 2.0));
        checks.same("row 1, column 1", bench.square(0, 1, 1), 100.0 - 100.0 / m * 100.0);
    }

    private static void tellsAHugeSquare() {
        EchoBench bench = grown(453);
        checks.same("row 0, column 1", bench.square(0, 0, 1), 5.3235258127119645E131 / 4.0);
        checks.same("row 1, column 0", bench.square(0, 1, 0), -4.106583754776751E131 / 4.0);
        checks.same("row 0, column 0", bench.square(0, 0, 0), 0.0);
    }

    private static void tellsASquareUpToTheEndOfDoubles() {
        double due = DoublingSquare.FIRST_B;
        for (int scripts = 0; scripts <= DoublingSquare.LAST_SCRIPTS; scripts++) {
            if (scripts % 19 == 0) {
                tellsRowsOf(due, DoublingSquare.bench(scripts));
            }
            due = due / 0.5 / 0.5 / 0.5;
        }
        checks.holds("one script more is still a double", due < Double.POSITIVE_INFINITY);
    }

    private static void tellsRowsOf(double b, EchoBench bench) {
        double[] due = {b, 0.0, 0.0, -b, b, b, b, 0.0};
        for (int at = 0; at < due.length; at++) {
            int row = at < 4 ? 1 : 3;
            checks.same("row " + row + " of b " + b, bench.square(0, row, at % 4), due[at]);
        }
        for (int row = 0; row < 4; row += 2) {
            for (int column = 0; column < 4; column++) {
                double told = bench.square(0, row, column);
                checks.holds("row " + row + " is small", told >= 0.0 && told < 0.001);
            }
        }
    }

    private static void tellsASquareBeyondTheDoubles() {
        EchoBench bench = DoublingSquare.bench(DoublingSquare.LAST_SCRIPTS + 1);
        for (int place = 0; place < 16; place++) {
            checks.same("place " + place, bench.square(0, place / 4, place % 4), Double.NaN);
        }
        checks.throwsIndex("row 4", bench, () -> bench.square(0, 4, 0));
        checks.throwsIndex("column 4", bench, () -> bench.square(0, 0, 4));
    }

    private static EchoBench grown(int zeros) {
        EchoBench bench = FlatSquare.bench();
        for (int sample = 0; sample < zeros; sample++) {
            bench.feed(0, 0);
        }
        return bench;
    }

    private static void refuses() {
        EchoBench bench = new EchoBench();
        checks.throwsIndex("no filter at all", bench, () -> bench.square(0, 0, 0));
        bench.filter(EchoBench.RLS, 2, 700);
        bench.filter(EchoBench.LMS, 2, 1);
        bench.filter(EchoBench.NORMAL, 8, 1);
        bench.filter(EchoBench.SIGN, 1, 1);
        bench.feed(1, 1);
        checks.throwsIndex("row 2", bench, () -> bench.square(0, 2, 0));
        checks.throwsIndex("column 2", bench, () -> bench.square(0, 0, 2));
        checks.throwsIndex("row -1", bench, () -> bench.square(0, -1, 0));
        checks.throwsIndex("column -1", bench, () -> bench.square(0, 0, -1));
        checks.throwsIndex("filter 4", bench, () -> bench.square(4, 0, 0));
        checks.throwsIndex("filter -1", bench, () -> bench.square(-1, 0, 0));
        checks.throwsState("an LMS", bench, () -> bench.square(1, 1, 1));
        checks.throwsState("a NORMAL", bench, () -> bench.square(2, 7, 7));
        checks.throwsState("a SIGN", bench, () -> bench.square(3, 0, 0));
        checks.throwsIndex("a row that an LMS has not", bench, () -> bench.square(1, 2, 0));
        checks.throwsIndex("a column that a SIGN has not", bench, () -> bench.square(3, 0, 1));
    }

    private static void tellsEachPlaceThereIs() {
        for (int taps = 1; taps <= 4; taps++) {
            EchoBench bench = new EchoBench();
            bench.filter(EchoBench.RLS, taps, 900);
            bench.script(taps, 8);
            for (int row = 0; row < taps; row++) {
                for (int column = 0; column < taps; column++) {
                    double told = bench.square(0, row, column);
                    checks.holds("it is no longer as at first", told != 0.0 && told != 100.0);
                }
            }
            for (int wrong : new int[] {Integer.MIN_VALUE, -1, taps, 4, Integer.MAX_VALUE}) {
                checks.throwsIndex("row", bench, () -> bench.square(0, wrong, 0));
                checks.throwsIndex("column", bench, () -> bench.square(0, 0, wrong));
                checks.throwsIndex("both", bench, () -> bench.square(0, wrong, wrong));
            }
            bench.begin(0);
            for (int row = 0; row < taps; row++) {
                for (int column = 0; column < taps; column++) {
                    checks.same("begun anew", bench.square(0, row, column), row == column ? 100.0 : 0.0);
                }
            }
        }
    }

    /** The clause names the row and the column ahead of the kind. */
    private static void asksForThePlaceAheadOfTheKind() {
        int[] others = {EchoBench.LMS, EchoBench.NORMAL, EchoBench.SIGN};
        for (int taps = 1; taps <= 8; taps++) {
            EchoBench bench = new EchoBench();
            for (int kind : others) {
                bench.filter(kind, taps, 100);
            }
            for (int place = 0; place < 100; place++) {
                int row = place / 10 - 1;
                int column = place % 10 - 1;
                boolean isThere = row >= 0 && row < taps && column >= 0 && column < taps;
                for (int filter = 0; filter < others.length; filter++) {
                    asksOne(bench, filter, row, column, isThere);
                }
                checks.throwsIndex("filter 3", bench, () -> bench.square(3, row, column));
            }
        }
    }

    private static void asksOne(EchoBench bench, int filter, int row, int column, boolean isThere) {
        String what = "filter " + filter + ", row " + row + ", column " + column;
        if (isThere) {
            checks.throwsState(what, bench, () -> bench.square(filter, row, column));
        } else {
            checks.throwsIndex(what, bench, () -> bench.square(filter, row, column));
        }
    }
}
