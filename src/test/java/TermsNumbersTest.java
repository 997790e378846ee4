/**
 * Terms, Numbers: sums in the order told, products and what is divided from left to right,
 * numbers held to a bound. Each order is tried where another one would answer another number.
 */
public final class TermsNumbersTest {
    private static final Checks checks = new Checks("terms, numbers");
    private static int othersShown;

    public static void main(String[] args) {
        addsAnOutputFromTapZero();
        addsTheMicrophoneFromTheTalk();
        dividesThePathBeforeItMultiplies();
        dividesTheWatchBeforeItMultiplies();
        multipliesStepErrorAndX();
        dividesWhatANormalLearns();
        reckonsASquareInOrder();
        addsHowFarOffFromTapZero();
        addsThePowerFromTheOldestError();
        addsTheBatchFromTheOldestSample();
        holdsAWeightToTheBoundBelowZero();
        holdsAWeightToTheBound();
        holdsAnRlsWeightToBothBounds();
        checks.end();
    }

    /** The answer is as due, and it is counted where another order would have shown. */
    private static void ordered(String what, double got, double due, double other) {
        checks.same(what, got, due);
        if (due != other) {
            othersShown++;
        }
    }

    private static void shown(String what) {
        checks.holds(what + ": another order shows at times", othersShown > 0);
        othersShown = 0;
    }

    private static void addsAnOutputFromTapZero() {
        EchoBench bench = new EchoBench();
        bench.filter(EchoBench.NORMAL, 3, 77);
        int[] x = new int[3];
        for (int sample = 0; sample < 40; sample++) {
            double[] w = {bench.weight(0, 0), bench.weight(0, 1), bench.weight(0, 2)};
            shift(x, 37 * sample % 101 - 50);
            bench.feed(x[0], 13 * sample % 29 - 14);
            double forward = w[0] * x[0] + w[1] * x[1] + w[2] * x[2];
            double backward = w[2] * x[2] + w[1] * x[1] + w[0] * x[0];
            ordered("the output", bench.of(0, 0), forward, backward);
        }
        shown("the output");
    }

    private static void shift(int[] x, int latest) {
        for (int k = x.length - 1; k > 0; k--) {
            x[k] = x[k - 1];
        }
        x[0] = latest;
    }

    private static void addsTheMicrophoneFromTheTalk() {
        EchoBench bench = new EchoBench();
        int[] path = {13, -29, 57};
        for (int place = 0; place < path.length; place++) {
            bench.path(place, path[place]);
        }
        int[] x = new int[3];
        for (int sample = 0; sample < 40; sample++) {
            shift(x, 37 * sample % 101 - 50);
            int talk = 17 * sample % 83 - 41;
            bench.feed(x[0], talk);
            double[] echo = {path[0] / 100.0 * x[0], path[1] / 100.0 * x[1], path[2] / 100.0 * x[2]};
            double first = talk + echo[0] + echo[1] + echo[2];
            double last = echo[0] + echo[1] + echo[2] + talk;
            double backward = talk + echo[2] + echo[1] + echo[0];
            ordered("the talk ahead", bench.microphone(), first, last);
            checks.same("the places from 0 on", bench.microphone(), first);
            othersShown += first != backward ? 1000 : 0;
        }
        checks.holds("the microphone: both other orders show", othersShown > 1000 && othersShown % 1000 > 0);
        othersShown = 0;
    }

    /** 29 / 100.0 * 100 is below 29, 7 / 100.0 * 100 above 7. */
    private static void dividesThePathBeforeItMultiplies() {
        for (int hundredths : new int[] {29, 7, -29, -7}) {
            EchoBench bench = new EchoBench();
            bench.path(0, hundredths);
            bench.feed(100, 0);
            ordered("the path", bench.microphone(), hundredths / 100.0 * 100, hundredths * 100 / 100.0);
        }
        shown("the path");
    }

    private static void dividesTheWatchBeforeItMultiplies() {
        EchoBench bench = new EchoBench();
        bench.filter(EchoBench.LMS, 1, 1);
        bench.watch(0, 29, 0);
        bench.feed(100, 29);
        checks.same("29 is above 29 / 100.0 * 100", bench.count(0, 1), 1);
        bench.watch(0, 7, 0);
        bench.feed(100, 7);
        checks.same("7 is not above 7 / 100.0 * 100", bench.count(0, 1), 1);
    }

    private static void multipliesStepErrorAndX() {
        for (int talk = 1; talk < 60; talk++) {
            EchoBench bench = new EchoBench();
            int x = 7 * talk % 61;
            bench.filter(EchoBench.LMS, 1, 700 + talk);
            bench.feed(x, talk);
            double step = (700 + talk) / 1000.0;
            ordered("what an LMS learns", bench.weight(0, 0), step * talk * x, step * (talk * x));
        }
        shown("what an LMS learns");
    }

    private static void dividesWhatANormalLearns() {
        for (int talk = 1; talk < 60; talk++) {
            EchoBench bench = new EchoBench();
            int x = 7 * talk % 61;
            bench.filter(EchoBench.NORMAL, 1, 700 + talk);
            bench.feed(x, talk);
            double step = (700 + talk) / 1000.0;
            double norm = 1.0 + x * x;
            ordered("what a NORMAL learns", bench.weight(0, 0), step * talk * x / norm, step * talk * (x / norm));
            ordered("the product ahead", bench.weight(0, 0), step * talk * x / norm, step * (talk * x) / norm);
        }
        shown("what a NORMAL learns");
    }

    /** The square, and what its weights learn, out of the square before; steps that are no round numbers. */
    private static void reckonsASquareInOrder() {
        EchoBench bench = new EchoBench();
        bench.filter(EchoBench.RLS, 3, 937);
        double step = 0.937;
        int[] x = new int[3];
        for (int sample = 0; sample < 60; sample++) {
            double[][] p = squareOf(bench);
            double[] w = {bench.weight(0, 0), bench.weight(0, 1), bench.weight(0, 2)};
            shift(x, 37 * sample % 101 - 50);
            bench.feed(x[0], 13 * sample % 29 - 14);
            double[] g = new double[3];
            for (int i = 0; i < 3; i++) {
                g[i] = p[i][0] * x[0] + p[i][1] * x[1] + p[i][2] * x[2];
            }
            double m = step + x[0] * g[0] + x[1] * g[1] + x[2] * g[2];
            double stepLast = x[0] * g[0] + x[1] * g[1] + x[2] * g[2] + step;
            double error = bench.of(0, 1);
            for (int i = 0; i < 3; i++) {
                ordered("weight " + i, bench.weight(0, i), w[i] + g[i] / m * error, w[i] + g[i] / stepLast * error);
                ordered("weight " + i, bench.weight(0, i), w[i] + g[i] / m * error, w[i] + g[i] * error / m);
                for (int j = 0; j < 3; j++) {
                    double k = g[i] / m;
                    ordered("P " + i + " " + j, bench.square(0, i, j), (p[i][j] - k * g[j]) / step,
                            (p[i][j] - g[i] * g[j] / m) / step);
                }
            }
        }
        checks.same("no reset", bench.count(0, 2), 0);
        shown("the square");
    }

    private static double[][] squareOf(EchoBench bench) {
        double[][] p = new double[3][3];
        for (int row = 0; row < 3; row++) {
            for (int column = 0; column < 3; column++) {
                p[row][column] = bench.square(0, row, column);
            }
        }
        return p;
    }

    private static void addsHowFarOffFromTapZero() {
        EchoBench bench = new EchoBench();
        bench.filter(EchoBench.LMS, 3, 1);
        for (int told = 1; told < 60; told++) {
            double[] squares = new double[3];
            for (int place = 0; place < 3; place++) {
                int hundredths = told * (place + 3) % 97;
                bench.path(place, hundredths);
                squares[place] = hundredths / 100.0 * (hundredths / 100.0);
            }
            ordered("how far off", bench.of(0, 2), squares[0] + squares[1] + squares[2],
                    squares[2] + squares[1] + squares[0]);
        }
        shown("how far off");
    }

    /** The other order here is that of places in a row of 16 that is used again. */
    private static void addsThePowerFromTheOldestError() {
        EchoBench bench = new EchoBench();
        bench.filter(EchoBench.NORMAL, 1, 300);
        double[] errors = new double[48];
        for (int sample = 0; sample < errors.length; sample++) {
            bench.feed(37 * sample % 101 - 50, 13 * sample % 29 - 14);
            errors[sample] = bench.of(0, 1);
            if (sample >= 16) {
                double sum = 0.0;
                double other = 0.0;
                for (int i = 0; i < 16; i++) {
                    double old = errors[sample - 15 + i];
                    double placed = errors[sample - (sample - i) % 16];
                    sum += old * old;
                    other += placed * placed;
                }
                ordered("the power", bench.of(0, 3), sum / 16, other / 16);
            }
        }
        shown("the power");
    }

    private static void addsTheBatchFromTheOldestSample() {
        EchoBench bench = new EchoBench();
        bench.path(0, 57);
        bench.path(2, -29);
        int[] x = new int[49];
        double[] heard = new double[49];
        for (int sample = 1; sample < x.length; sample++) {
            x[sample] = 37 * sample % 101 - 50;
            bench.feed(x[sample], 0);
            heard[sample] = bench.microphone();
            if (sample > 16) {
                double due = batchOfTap0(x, heard, sample, 0);
                ordered("the batch", bench.batch(0), due, batchOfTap0(x, heard, sample, sample % 16));
            }
        }
        shown("the batch");
    }

    /** turned: how many of the oldest samples are added behind the others. */
    private static double batchOfTap0(int[] x, double[] heard, int latest, int turned) {
        double a = 0.0;
        double b = 0.0;
        double c = 0.0;
        double p = 0.0;
        double q = 0.0;
        for (int i = 0; i < 16; i++) {
            int at = latest - 15 + (i + turned) % 16;
            a += x[at] * x[at];
            b += x[at] * x[at - 1];
            c += x[at - 1] * x[at - 1];
            p += x[at] * heard[at];
            q += x[at - 1] * heard[at];
        }
        return (p * c - q * b) / (a * c - b * b);
    }

    /** An LMS with a step of 2.0 and one tap: all is whole, so the bound is met to the last digit. */
    private static double lmsBehind(int x1, int talk1, int x2, int talk2) {
        EchoBench bench = new EchoBench();
        bench.filter(EchoBench.LMS, 1, 2000);
        bench.feed(x1, talk1);
        bench.feed(x2, talk2);
        return bench.weight(0, 0);
    }

    private static void holdsAWeightToTheBoundBelowZero() {
        checks.same("just inside", lmsBehind(7, 143, 500, 998), -999999998.0);
        checks.same("at the bound", lmsBehind(1, 1000, 500, -2), -1000000000.0);
        checks.same("just beyond", lmsBehind(1, 855, 541, 894), -1000000000.0);
        checks.same("far beyond", lmsBehind(1000, 1000, 1000, -1000), -1000000000.0);
    }

    private static void holdsAWeightToTheBound() {
        checks.same("just inside", lmsBehind(7, -143, 500, -998), 999999998.0);
        checks.same("at the bound", lmsBehind(1, -1000, 500, 2), 1000000000.0);
        checks.same("just beyond", lmsBehind(1, -855, 541, -894), 1000000000.0);
        checks.same("far beyond", lmsBehind(1000, -1000, 1000, 1000), 1000000000.0);
    }

    private static void holdsAnRlsWeightToBothBounds() {
        for (int talk = -1; talk <= 1; talk++) {
            EchoBench bench = FlatSquare.bench();
            for (int sample = 0; sample < 300; sample++) {
                bench.feed(0, 0);
            }
            bench.feed(1, talk);
            // P 1 0 is below 0.0, so what weight 1 learns has the other sign of the talk.
            checks.same("weight 1 at talk " + talk, bench.weight(0, 1), talk * -1000000000.0);
            checks.same("weight 0", bench.weight(0, 0), 0.0);
        }
    }
}
