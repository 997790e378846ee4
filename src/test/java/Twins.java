/** Benches made by the same calls, to see whether what stands between the calls changes one of them. */
final class Twins {
    private Twins() {
    }

    /** Six filters of all kinds, with watches and tails that are told. */
    static EchoBench made() {
        EchoBench bench = new EchoBench();
        for (int place = 0; place < 8; place++) {
            bench.path(place, 90 - 23 * place);
        }
        for (int filter = 0; filter < 6; filter++) {
            bench.filter(filter % 4, 1 + filter % 4, 600 + 3 * filter);
            bench.watch(filter, 150 + filter, filter);
        }
        return bench;
    }

    /** Some calls more, others at each number: loud and quiet samples, a script, and what is told on the way. */
    static void goOn(EchoBench bench, int number) {
        int filter = number % 6;
        bench.feed(37 * number % 101 - 50, number % 5 == 0 ? 300 : 0);
        bench.feed(number % 3, number % 2);
        if (number % 4 == 0) {
            bench.script(29 * number % 2001, 1 + number % 7);
        }
        if (number % 7 == 0) {
            bench.step(filter, 1000 - number);
            bench.watch(filter, 100 + number, number % 21);
            bench.path(number % 8, 5 * number - 60);
        }
        if (number % 11 == 10) {
            bench.begin(filter);
        }
    }
}
