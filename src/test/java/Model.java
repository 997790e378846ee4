import java.util.ArrayList;
import java.util.List;

/**
 * The document once more, told another way: it keeps every sample ever taken and works
 * answers out of that history. ModelTest holds the class against it.
 */
final class Model {
    static final class Sample {
        int x;
        double microphone;
    }

    static final class Learner {
        int kind;
        int step;
        int watch;
        int tail;
        double[] w;
        double[][] p;
        List<double[]> heard = new ArrayList<>(); // output, error
        int held;
        int resetsAbove;
        int resetsBelow;
        int resetsSmall;
        int goesOn;

        void first() {
            w = new double[w.length];
            p = firstSquare(w.length);
            heard.clear();
            held = 0;
            resetsAbove = 0;
            resetsBelow = 0;
            resetsSmall = 0;
            goesOn = 0;
        }
    }

    final int[] path = new int[8];
    final List<Sample> samples = new ArrayList<>();
    final List<Learner> learners = new ArrayList<>();
    double greatestP = 0.0;
    boolean metNaN = false;

    private static double[][] firstSquare(int n) {
        double[][] p = new double[n][n];
        for (int i = 0; i < n; i++) {
            p[i][i] = 100.0;
        }
        return p;
    }

    private double x(int sample, int back) {
        return sample - back < 0 ? 0.0 : samples.get(sample - back).x;
    }

    int path(int place, int hundredths) {
        index(place < 0 || place > 7);
        argument(hundredths < -1000 || hundredths > 1000);
        int before = path[place];
        path[place] = hundredths;
        return before;
    }

    int filter(int kind, int taps, int step) {
        argument(kind < 0 || kind > 3 || taps < 1 || taps > 8 || kind == 3 && taps > 4 || badStep(kind, step));
        state(learners.size() >= 6);
        Learner made = new Learner();
        made.kind = kind;
        made.step = step;
        made.w = new double[taps];
        made.p = firstSquare(taps);
        learners.add(made);
        return learners.size() - 1;
    }

    private static boolean badStep(int kind, int step) {
        return kind == 3 ? step < 500 || step > 1000 : step < 1 || step > 2000;
    }

    int step(int filter, int step) {
        Learner one = learner(filter);
        argument(badStep(one.kind, step));
        int before = one.step;
        one.step = step;
        return before;
    }

    void watch(int filter, int hundredths, int tail) {
        Learner one = learner(filter);
        argument(hundredths < 0 || hundredths > 1000 || tail < 0 || tail > 20);
        one.watch = hundredths;
        one.tail = tail;
    }

    void begin(int filter) {
        learner(filter).first();
    }

    int feed(int x, int talk) {
        argument(x < -1000 || x > 1000 || talk < -1000 || talk > 1000);
        state(samples.size() >= 2000);
        take(x, talk);
        return samples.size();
    }

    int script(int v, int many) {
        argument(v < 0 || v > 2000 || many < 1 || many > 100);
        state(samples.size() + many > 2000);
        for (int i = 0; i < many; i++) {
            v = (7 * v + 1001) % 2001;
            take(v - 1000, 0);
        }
        return v;
    }

    private void take(int x, int talk) {
        Sample now = new Sample();
        now.x = x;
        samples.add(now);
        int at = samples.size() - 1;
        double microphone = talk;
        for (int k = 0; k < 8; k++) {
            microphone += path[k] / 100.0 * x(at, k);
        }
        now.microphone = microphone;
        for (Learner one : learners) {
            hear(one, at, microphone);
        }
    }

    private void hear(Learner one, int at, double microphone) {
        double output = 0.0;
        int greatest = 0;
        for (int k = 0; k < one.w.length; k++) {
            output += one.w[k] * x(at, k);
            greatest = Math.max(greatest, (int) Math.abs(x(at, k)));
        }
        double error = microphone - output;
        one.heard.add(new double[] {output, error});
        boolean loud = one.watch > 0 && Math.abs(microphone) > one.watch / 100.0 * greatest;
        boolean holds = loud || one.goesOn > 0;
        one.goesOn = loud ? one.tail : Math.max(0, one.goesOn - 1);
        if (holds) {
            one.held++;
        } else if (one.kind == 3) {
            recursive(one, at, error);
        } else {
            simple(one, at, error);
        }
    }

    private void simple(Learner one, int at, double error) {
        double squares = 1.0;
        for (int k = 0; k < one.w.length; k++) {
            squares += x(at, k) * x(at, k);
        }
        double step = one.step / 1000.0;
        for (int k = 0; k < one.w.length; k++) {
            double learned = step * error * x(at, k);
            if (one.kind == 1) {
                learned = learned / squares;
            } else if (one.kind == 2) {
                learned = step * x(at, k) * Math.signum(error);
            }
            one.w[k] = Math.max(-1.0e9, Math.min(1.0e9, one.w[k] + learned));
        }
    }

    private void recursive(Learner one, int at, double error) {
        int n = one.w.length;
        double step = one.step / 1000.0;
        double[] g = new double[n];
        double m = step;
        for (int i = 0; i < n; i++) {
            for (int j = 0; j < n; j++) {
                g[i] += one.p[i][j] * x(at, j);
            }
            m += x(at, i) * g[i];
        }
        if (m < 0.000001) {
            one.p = firstSquare(n);
            one.resetsSmall++;
            return;
        }
        double[][] next = new double[n][n];
        boolean above = false;
        boolean below = false;
        for (int i = 0; i < n; i++) {
            one.w[i] = Math.max(-1.0e9, Math.min(1.0e9, one.w[i] + g[i] / m * error));
            for (int j = 0; j < n; j++) {
                next[i][j] = (one.p[i][j] - g[i] / m * g[j]) / step;
                metNaN |= Double.isNaN(next[i][j]);
                greatestP = Math.abs(next[i][j]) > greatestP ? Math.abs(next[i][j]) : greatestP;
            }
            above |= next[i][i] > 1000000.0;
            below |= next[i][i] < 0.0;
        }
        one.p = above || below ? firstSquare(n) : next;
        one.resetsAbove += above ? 1 : 0;
        one.resetsBelow += below && !above ? 1 : 0;
    }

    double weight(int filter, int tap) {
        Learner one = learner(filter);
        index(tap < 0 || tap >= one.w.length);
        return one.w[tap];
    }

    double of(int filter, int what) {
        Learner one = learner(filter);
        argument(what < 0 || what > 3);
        int n = one.heard.size();
        if (what < 2) {
            return n == 0 ? 0.0 : one.heard.get(n - 1)[what];
        }
        double sum = 0.0;
        if (what == 2) {
            for (int k = 0; k < one.w.length; k++) {
                double gap = one.w[k] - path[k] / 100.0;
                sum += gap * gap;
            }
            return sum;
        }
        List<double[]> latest = one.heard.subList(Math.max(0, n - 16), n);
        for (double[] pair : latest) {
            sum += pair[1] * pair[1];
        }
        return n == 0 ? 0.0 : sum / latest.size();
    }

    int count(int filter, int what) {
        Learner one = learner(filter);
        argument(what < 0 || what > 3);
        int resets = one.resetsAbove + one.resetsBelow + one.resetsSmall;
        return new int[] {one.heard.size(), one.held, resets, one.goesOn}[what];
    }

    double microphone() {
        return samples.isEmpty() ? 0.0 : samples.get(samples.size() - 1).microphone;
    }

    double batch(int tap) {
        index(tap < 0 || tap > 1);
        double a = 0.0, b = 0.0, c = 0.0, p = 0.0, q = 0.0;
        for (int at = Math.max(0, samples.size() - 16); at < samples.size(); at++) {
            double microphone = samples.get(at).microphone;
            a += x(at, 0) * x(at, 0);
            b += x(at, 0) * x(at, 1);
            c += x(at, 1) * x(at, 1);
            p += x(at, 0) * microphone;
            q += x(at, 1) * microphone;
        }
        double z = a * c - b * b;
        return Math.abs(z) < 0.5 ? 0.0 : tap == 0 ? (p * c - q * b) / z : (q * a - p * b) / z;
    }

    double square(int filter, int row, int column) {
        Learner one = learner(filter);
        index(row < 0 || row >= one.w.length || column < 0 || column >= one.w.length);
        state(one.kind != 3);
        return one.p[row][column];
    }

    int best() {
        int best = -1;
        for (int i = 0; i < learners.size(); i++) {
            best = best < 0 || of(i, 2) < of(best, 2) ? i : best;
        }
        return best;
    }

    private Learner learner(int filter) {
        index(filter < 0 || filter >= learners.size());
        return learners.get(filter);
    }

    private static void index(boolean wrong) {
        if (wrong) {
            throw new IndexOutOfBoundsException();
        }
    }

    private static void argument(boolean wrong) {
        if (wrong) {
            throw new IllegalArgumentException();
        }
    }

    private static void state(boolean wrong) {
        if (wrong) {
            throw new IllegalStateException();
        }
    }
}
