/** Promise 13: batch. */
public final class Promise13BatchTest {
    private static final Checks checks = new Checks("promise 13");

    public static void main(String[] args) {
        findsAPathOfTwo();
        takesFewerThanSixteen();
        takesTheLatestSixteenOnly();
        answersZeroIfZIsSmall();
        refuses();
        checks.end();
    }

    private static void findsAPathOfTwo() {
        EchoBench bench = new EchoBench();
        bench.path(0, 200);
        bench.path(1, -50);
        bench.feed(1, 0);
        bench.feed(2, 0);
        // a 5, b 2, c 1, p 2 + 7, q 3.5, z 1
        checks.same("weight 0", bench.batch(0), 9.0 - 7.0);
        checks.same("weight 1", bench.batch(1), 17.5 - 18.0);
    }

    private static void takesFewerThanSixteen() {
        EchoBench bench = new EchoBench();
        bench.feed(3, 5);
        checks.same("one sample: z is 0", bench.batch(0), 0.0);
        bench.feed(1, 2);
        // a 10, b 3, c 9, p 17, q 6, z 81
        checks.same("weight 0", bench.batch(0), (17.0 * 9.0 - 6.0 * 3.0) / 81.0);
        checks.same("weight 1", bench.batch(1), (6.0 * 10.0 - 17.0 * 3.0) / 81.0);
    }

    /** Old x and microphones stay as they were at their samples, until they are too old. */
    private static void takesTheLatestSixteenOnly() {
        EchoBench bench = new EchoBench();
        double[] x = new double[60];
        double[] microphone = new double[60];
        for (int sample = 0; sample < 60; sample++) {
            bench.path(0, sample * 17 % 300 - 150);
            x[sample] = sample * sample * 31 % 777 - 300;
            bench.feed((int) x[sample], sample % 7);
            microphone[sample] = bench.microphone();
            double a = 0.0, b = 0.0, c = 0.0, p = 0.0, q = 0.0;
            for (int i = Math.max(0, sample - 15); i <= sample; i++) {
                double back = i == 0 ? 0.0 : x[i - 1];
                a += x[i] * x[i];
                b += x[i] * back;
                c += back * back;
                p += x[i] * microphone[i];
                q += back * microphone[i];
            }
            double z = a * c - b * b;
            checks.same("weight 0 at " + sample, bench.batch(0), sample == 0 ? 0.0 : (p * c - q * b) / z);
            checks.same("weight 1 at " + sample, bench.batch(1), sample == 0 ? 0.0 : (q * a - p * b) / z);
        }
        for (int sample = 0; sample < 16; sample++) {
            bench.feed(0, 5);
        }
        checks.same("one x 1 is left: z is 0", bench.batch(0), 0.0);
        bench.feed(0, 5);
        checks.same("nothing is left", bench.batch(1), 0.0);
    }

    private static void answersZeroIfZIsSmall() {
        EchoBench bench = new EchoBench();
        checks.same("no sample", bench.batch(0), 0.0);
        bench.feed(0, 8);
        bench.feed(1, 8);
        checks.same("z 0, weight 0", bench.batch(0), 0.0);
        checks.same("z 0, weight 1", bench.batch(1), 0.0);
        bench.feed(0, 8);
        // a 1, b 0, c 1, p 8, q 8, z 1
        checks.same("z 1, weight 0", bench.batch(0), 8.0);
        checks.same("z 1, weight 1", bench.batch(1), 8.0);
    }

    private static void refuses() {
        EchoBench bench = new EchoBench();
        bench.filter(EchoBench.LMS, 8, 1);
        bench.feed(1, 2);
        bench.feed(3, 4);
        checks.throwsIndex("tap 2", bench, () -> bench.batch(2));
        checks.throwsIndex("tap -1", bench, () -> bench.batch(-1));
        checks.throwsIndex("the least tap", bench, () -> bench.batch(Integer.MIN_VALUE));
        checks.throwsIndex("the greatest tap", bench, () -> bench.batch(Integer.MAX_VALUE));
    }
}
