import java.util.Arrays;

/**
 * A bench of adaptive filters that learn an echo's path from the same samples.
 * Everything is made in constructors, so feeding and asking make no objects.
 */
public final class EchoBench {
    public static final int NONE = -1;
    public static final int LMS = 0, NORMAL = 1, SIGN = 2, RLS = 3;

    private static final int PLACES = 8;
    private static final int MOST_FILTERS = 6;
    private static final int MOST_RLS_TAPS = 4;
    private static final int MOST_SAMPLES = 2000;
    private static final int MOST_SCRIPTED = 100;
    private static final int SCRIPT_DIVISOR = 2001;
    private static final int LATEST = 16;
    private static final int GREATEST = 1000;
    private static final int MOST_STEP = 2000;
    private static final int LEAST_RLS_STEP = 500;
    private static final int MOST_RLS_STEP = 1000;
    private static final int MOST_WATCH = 1000;
    private static final int MOST_TAIL = 20;

    private final Samples samples;
    private final Filter[] filters;
    private int filterCount;

    public EchoBench() {
        samples = new Samples();
        filters = new Filter[MOST_FILTERS];
        filterCount = 0;
    }

    // ---- the path, filters

    public int path(int place, int hundredths) throws IndexOutOfBoundsException, IllegalArgumentException {
        if (!isWithin(place, 0, PLACES - 1)) {
            throw new IndexOutOfBoundsException("no such place");
        }
        if (!isWithin(hundredths, -GREATEST, GREATEST)) {
            throw new IllegalArgumentException("hundredths out of range");
        }
        return samples.tellPath(place, hundredths);
    }

    public int filter(int kind, int taps, int step) throws IllegalArgumentException, IllegalStateException {
        if (!isWithin(kind, LMS, RLS)) {
            throw new IllegalArgumentException("kind out of range");
        }
        if (!isWithin(taps, 1, kind == RLS ? MOST_RLS_TAPS : PLACES)) {
            throw new IllegalArgumentException("taps out of range");
        }
        if (!isStepOf(kind, step)) {
            throw new IllegalArgumentException("step out of range");
        }
        if (filterCount >= filters.length) {
            throw new IllegalStateException("no room for another filter");
        }
        int number = filterCount;
        filters[number] = new Filter(kind, taps, step);
        filterCount++;
        return number;
    }

    public int step(int filter, int step) throws IndexOutOfBoundsException, IllegalArgumentException {
        Filter told = numbered(filter);
        if (told == null) {
            throw new IndexOutOfBoundsException("no such filter");
        }
        if (!isStepOf(told.kind, step)) {
            throw new IllegalArgumentException("step out of range");
        }
        int before = told.thousandths;
        told.thousandths = step;
        return before;
    }

    public void watch(int filter, int hundredths, int tail)
            throws IndexOutOfBoundsException, IllegalArgumentException {
        Filter told = numbered(filter);
        if (told == null) {
            throw new IndexOutOfBoundsException("no such filter");
        }
        if (!isWithin(hundredths, 0, MOST_WATCH)) {
            throw new IllegalArgumentException("hundredths out of range");
        }
        if (!isWithin(tail, 0, MOST_TAIL)) {
            throw new IllegalArgumentException("tail out of range");
        }
        told.watchHundredths = hundredths;
        told.tail = tail;
    }

    public void begin(int filter) throws IndexOutOfBoundsException {
        Filter told = numbered(filter);
        if (told == null) {
            throw new IndexOutOfBoundsException("no such filter");
        }
        told.restart();
    }

    // ---- samples

    public int feed(int x, int talk) throws IllegalArgumentException, IllegalStateException {
        if (!isWithin(x, -GREATEST, GREATEST)) {
            throw new IllegalArgumentException("x out of range");
        }
        if (!isWithin(talk, -GREATEST, GREATEST)) {
            throw new IllegalArgumentException("talk out of range");
        }
        if (samples.taken >= MOST_SAMPLES) {
            throw new IllegalStateException("no more samples");
        }
        takeSample(x, talk);
        return samples.taken;
    }

    public int script(int v, int many) throws IllegalArgumentException, IllegalStateException {
        if (!isWithin(v, 0, SCRIPT_DIVISOR - 1)) {
            throw new IllegalArgumentException("v out of range");
        }
        if (!isWithin(many, 1, MOST_SCRIPTED)) {
            throw new IllegalArgumentException("many out of range");
        }
        if (samples.taken + many > MOST_SAMPLES) {
            throw new IllegalStateException("no more samples");
        }
        int now = v;
        for (int i = 0; i < many; i++) {
            now = (7 * now + 1001) % SCRIPT_DIVISOR;
            takeSample(now - GREATEST, 0);
        }
        return now;
    }

    // ---- what is asked

    public double weight(int filter, int tap) throws IndexOutOfBoundsException {
        Filter asked = numbered(filter);
        if (asked == null) {
            throw new IndexOutOfBoundsException("no such filter");
        }
        if (tap < 0 || tap >= asked.weights.length) {
            throw new IndexOutOfBoundsException("no such tap");
        }
        return asked.weights[tap];
    }

    public double of(int filter, int what) throws IndexOutOfBoundsException, IllegalArgumentException {
        Filter asked = numbered(filter);
        if (asked == null) {
            throw new IndexOutOfBoundsException("no such filter");
        }
        switch (what) {
            case 0:
                return asked.output;
            case 1:
                return asked.error;
            case 2:
                return samples.offness(asked.weights);
            case 3:
                return asked.power();
            default:
                throw new IllegalArgumentException("what out of range");
        }
    }

    public int count(int filter, int what) throws IndexOutOfBoundsException, IllegalArgumentException {
        Filter asked = numbered(filter);
        if (asked == null) {
            throw new IndexOutOfBoundsException("no such filter");
        }
        switch (what) {
            case 0:
                return asked.heard;
            case 1:
                return asked.held;
            case 2:
                return asked.resets;
            case 3:
                return asked.holdsLeft;
            default:
                throw new IllegalArgumentException("what out of range");
        }
    }

    public double microphone() {
        return samples.lastMicrophone;
    }

    public double batch(int tap) throws IndexOutOfBoundsException {
        if (!isWithin(tap, 0, 1)) {
            throw new IndexOutOfBoundsException("no such tap");
        }
        return samples.batchWeight(tap);
    }

    public double square(int filter, int row, int column) throws IndexOutOfBoundsException, IllegalStateException {
        Filter asked = numbered(filter);
        if (asked == null) {
            throw new IndexOutOfBoundsException("no such filter");
        }
        int taps = asked.weights.length;
        if (!isWithin(row, 0, taps - 1)) {
            throw new IndexOutOfBoundsException("no such row");
        }
        if (!isWithin(column, 0, taps - 1)) {
            throw new IndexOutOfBoundsException("no such column");
        }
        if (asked.square == null) {
            throw new IllegalStateException("no RLS");
        }
        return asked.square.number(row, column);
    }

    public int best() {
        int best = NONE;
        double least = 0.0;
        for (int i = 0; i < filterCount; i++) {
            Filter other = numbered(i);
            if (other != null) {
                double off = samples.offness(other.weights);
                if (best == NONE || off < least) {
                    best = i;
                    least = off;
                }
            }
        }
        return best;
    }

    // ---- helpers

    private static boolean isWithin(int number, int least, int most) {
        return number >= least && number <= most;
    }

    private static boolean isStepOf(int kind, int step) {
        return kind == RLS ? isWithin(step, LEAST_RLS_STEP, MOST_RLS_STEP) : isWithin(step, 1, MOST_STEP);
    }

    private static double heldTo(double number, double bound) {
        return number > bound ? bound : number < -bound ? -bound : number;
    }

    private static double eitherWay(double number) {
        return number < 0.0 ? -number : number;
    }

    private Filter numbered(int number) {
        return number < 0 || number >= filterCount || number >= filters.length ? null : filters[number];
    }

    private void takeSample(int x, int talk) {
        samples.take(x, talk);
        for (int i = 0; i < filterCount; i++) {
            Filter hearer = numbered(i);
            if (hearer != null) {
                hearer.hear(samples.xs, samples.lastMicrophone);
            }
        }
    }

    /** The path, the latest x, and what the batch needs of the latest samples. */
    private static final class Samples {
        private final int[] pathHundredths;
        private final double[] xs;
        private final double[] latestX0;
        private final double[] latestX1;
        private final double[] latestMicrophone;
        private double lastMicrophone;
        private int taken;

        private Samples() {
            pathHundredths = new int[PLACES];
            xs = new double[PLACES];
            latestX0 = new double[LATEST];
            latestX1 = new double[LATEST];
            latestMicrophone = new double[LATEST];
            lastMicrophone = 0.0;
            taken = 0;
        }

        private int tellPath(int place, int hundredths) {
            if (place < 0 || place >= pathHundredths.length) {
                return 0;
            }
            int before = pathHundredths[place];
            pathHundredths[place] = hundredths;
            return before;
        }

        private void take(int x, int talk) {
            for (int k = PLACES - 1; k > 0; k--) {
                xs[k] = xs[k - 1];
            }
            xs[0] = x;
            lastMicrophone = heardWith(talk);
            int slot = Math.floorMod(taken, LATEST);
            latestX0[slot] = xs[0];
            latestX1[slot] = xs[1];
            latestMicrophone[slot] = lastMicrophone;
            taken++;
        }

        private double heardWith(int talk) {
            double heard = talk;
            for (int k = 0; k < PLACES; k++) {
                heard = heard + pathHundredths[k] / 100.0 * xs[k];
            }
            return heard;
        }

        private double offness(double[] weights) {
            double sum = 0.0;
            for (int k = 0; k < weights.length && k < PLACES; k++) {
                double gap = weights[k] - pathHundredths[k] / 100.0;
                sum = sum + gap * gap;
            }
            return sum;
        }

        private double batchWeight(int tap) {
            double a = sumOfProducts(latestX0, latestX0);
            double b = sumOfProducts(latestX0, latestX1);
            double c = sumOfProducts(latestX1, latestX1);
            double p = sumOfProducts(latestX0, latestMicrophone);
            double q = sumOfProducts(latestX1, latestMicrophone);
            double z = a * c - b * b;
            if (eitherWay(z) < 0.5) {
                return 0.0;
            }
            return tap == 0 ? (p * c - q * b) / z : (q * a - p * b) / z;
        }

        /** Oldest first, as the order of the additions shows in the last digits. */
        private double sumOfProducts(double[] left, double[] right) {
            double sum = 0.0;
            for (int i = Math.max(0, taken - LATEST); i < taken; i++) {
                int slot = Math.floorMod(i, LATEST);
                if (slot < left.length && slot < right.length) {
                    sum = sum + left[slot] * right[slot];
                }
            }
            return sum;
        }
    }

    /** One filter: its weights, how it learns, when it holds, and its latest errors. */
    private static final class Filter {
        private static final int MOST_WEIGHT = 1000000000;

        private final int kind;
        private final double[] weights;
        private final double[] latestErrors;
        /** null but for RLS. */
        private final Square square;
        private int thousandths;
        private int watchHundredths;
        private int tail;
        private int holdsLeft;
        private double output;
        private double error;
        private int heard;
        private int held;
        private int resets;

        private Filter(int kind, int taps, int step) {
            this.kind = kind;
            weights = new double[taps];
            latestErrors = new double[LATEST];
            square = kind == RLS ? new Square(taps) : null;
            thousandths = step;
        }

        private void restart() {
            Arrays.fill(weights, 0.0);
            if (square != null) {
                square.restart();
            }
            holdsLeft = 0;
            output = 0.0;
            error = 0.0;
            heard = 0;
            held = 0;
            resets = 0;
        }

        private void hear(double[] xs, double microphone) {
            output = outputAt(xs);
            error = microphone - output;
            latestErrors[Math.floorMod(heard, LATEST)] = error;
            heard++;
            if (holdsAt(xs, microphone)) {
                held++;
            } else if (square != null) {
                learnBySquare(square, xs);
            } else {
                learn(xs);
            }
        }

        private double outputAt(double[] xs) {
            double sum = 0.0;
            for (int k = 0; k < weights.length && k < xs.length; k++) {
                sum = sum + weights[k] * xs[k];
            }
            return sum;
        }

        /** Each loud sample starts the tail anew, even with a shorter one. */
        private boolean holdsAt(double[] xs, double microphone) {
            if (isLoud(xs, microphone)) {
                holdsLeft = tail;
                return true;
            }
            if (holdsLeft > 0) {
                holdsLeft--;
                return true;
            }
            return false;
        }

        private boolean isLoud(double[] xs, double microphone) {
            if (watchHundredths <= 0) {
                return false;
            }
            double greatest = 0.0;
            for (int k = 0; k < weights.length && k < xs.length; k++) {
                double size = eitherWay(xs[k]);
                greatest = size > greatest ? size : greatest;
            }
            return eitherWay(microphone) > watchHundredths / 100.0 * greatest;
        }

        private void learn(double[] xs) {
            double norm = kind == NORMAL ? normOf(xs) : 1.0;
            for (int k = 0; k < weights.length && k < xs.length; k++) {
                add(k, lesson(xs[k], norm));
            }
        }

        private double lesson(double x, double norm) {
            double step = thousandths / 1000.0;
            switch (kind) {
                case LMS:
                    return step * error * x;
                case NORMAL:
                    return norm >= 1.0 ? step * error * x / norm : 0.0;
                default:
                    return error > 0.0 ? step * x : error < 0.0 ? -(step * x) : 0.0;
            }
        }

        private double normOf(double[] xs) {
            double sum = 1.0;
            for (int k = 0; k < weights.length && k < xs.length; k++) {
                sum = sum + xs[k] * xs[k];
            }
            return sum;
        }

        private void learnBySquare(Square own, double[] xs) {
            double step = thousandths / 1000.0;
            boolean sound = own.prepare(xs, step);
            if (sound) {
                for (int k = 0; k < weights.length; k++) {
                    add(k, own.share(k) * error);
                }
                sound = own.renew(step);
            }
            if (!sound) {
                own.restart();
                resets++;
            }
        }

        private void add(int tap, double learned) {
            if (tap >= 0 && tap < weights.length) {
                weights[tap] = heldTo(weights[tap] + learned, MOST_WEIGHT);
            }
        }

        private double power() {
            double sum = 0.0;
            int first = Math.max(0, heard - LATEST);
            for (int i = first; i < heard; i++) {
                double one = latestErrors[Math.floorMod(i, LATEST)];
                sum = sum + one * one;
            }
            return heard > first ? sum / (heard - first) : 0.0;
        }
    }

    /**
     * The square P of an RLS filter, with the rows g and k of the sample at hand.
     * Nothing bounds its numbers beside the diagonal, so they may become infinite, and m, k, P
     * and the weights NaN. Nothing keeps that out, as the document's sums, products and quotients
     * are those of doubles; nor is it a reset, as NaN is not below a bound and not above one.
     */
    private static final class Square {
        private static final int FIRST = 100;
        private static final int MOST_DIAGONAL = 1000000;

        private final int size;
        private final double[][] numbers;
        private final double[] g;
        private final double[] shares;

        private Square(int size) {
            this.size = size;
            numbers = new double[size][size];
            g = new double[size];
            shares = new double[size];
            for (int i = 0; i < size; i++) {
                numbers[i][i] = FIRST;
            }
        }

        private void restart() {
            for (int i = 0; i < size; i++) {
                for (int j = 0; j < size; j++) {
                    numbers[i][j] = i == j ? FIRST : 0.0;
                }
            }
        }

        private double number(int row, int column) {
            return isWithin(row, 0, size - 1) && isWithin(column, 0, size - 1) ? numbers[row][column] : 0.0;
        }

        private double share(int tap) {
            return isWithin(tap, 0, size - 1) ? shares[tap] : 0.0;
        }

        /** Makes g and k; false where m is too small to divide by. */
        private boolean prepare(double[] xs, double step) {
            double m = step;
            for (int i = 0; i < size && i < xs.length; i++) {
                g[i] = rowTimes(i, xs);
                m = m + xs[i] * g[i];
            }
            if (m < 0.000001) {
                return false;
            }
            for (int i = 0; i < size; i++) {
                shares[i] = g[i] / m;
            }
            return true;
        }

        private double rowTimes(int row, double[] xs) {
            double sum = 0.0;
            if (row >= 0 && row < size) {
                for (int j = 0; j < size && j < xs.length; j++) {
                    sum = sum + numbers[row][j] * xs[j];
                }
            }
            return sum;
        }

        /** Takes what was learned out of P; false where its diagonal has left its bounds. */
        private boolean renew(double step) {
            if (step <= 0.0) {
                return false;
            }
            boolean left = false;
            for (int i = 0; i < size; i++) {
                for (int j = 0; j < size; j++) {
                    numbers[i][j] = (numbers[i][j] - shares[i] * g[j]) / step;
                }
                left = left || numbers[i][i] > MOST_DIAGONAL || numbers[i][i] < 0.0;
            }
            return !left;
        }
    }
}
