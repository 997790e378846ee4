/** All that can be asked of a bench, as a text. */
final class Look {
    private Look() {
    }

    static String at(EchoBench bench) {
        StringBuilder seen = new StringBuilder();
        seen.append("microphone ").append(plain(bench.microphone()));
        seen.append(" batch ").append(plain(bench.batch(0))).append(' ').append(plain(bench.batch(1)));
        seen.append(" best ").append(bench.best());
        for (int filter = 0; isThere(bench, filter); filter++) {
            seen.append("\n  filter ").append(filter);
            filter(seen, bench, filter);
        }
        return seen.toString();
    }

    private static boolean isThere(EchoBench bench, int filter) {
        try {
            bench.count(filter, 0);
            return true;
        } catch (IndexOutOfBoundsException e) {
            return false;
        }
    }

    private static void filter(StringBuilder seen, EchoBench bench, int filter) {
        for (int what = 0; what < 4; what++) {
            seen.append(" of ").append(plain(bench.of(filter, what)));
            seen.append(" count ").append(bench.count(filter, what));
        }
        int taps = 0;
        try {
            for (taps = 0; taps < 100; taps++) {
                seen.append(" weight ").append(plain(bench.weight(filter, taps)));
            }
        } catch (IndexOutOfBoundsException e) {
            seen.append(" taps ").append(taps);
        }
        try {
            for (int row = 0; row < taps; row++) {
                for (int column = 0; column < taps; column++) {
                    seen.append(" P ").append(plain(bench.square(filter, row, column)));
                }
            }
        } catch (IllegalStateException e) {
            seen.append(" no P");
        }
    }

    /** 0.0 and -0.0 are the same number. */
    private static double plain(double number) {
        return number == 0.0 ? 0.0 : number;
    }
}
