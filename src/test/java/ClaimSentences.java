/** The sentences on claims. */
final class ClaimSentences extends Chapter {
    ClaimSentences(Document document, Check check) {
        super(document, check);
    }

    private static char judged(int heat, int hot, int cold, int work) {
        return new Cycleworks().claim(heat, hot, cold, work);
    }

    private static Object best(int heat, int hot, int cold) {
        return Check.outcome(() -> new Cycleworks().bestWork(heat, hot, cold));
    }

    /** By the word: the greatest work that is not refused, tried one by one. */
    private static Object tried(int heat, int hot, int cold) {
        for (int work = heat + 1; work >= 0; work--) {
            if (judged(heat, hot, cold, work) == '-') {
                return work;
            }
        }
        return NONE;
    }

    @Override
    void run() {
        judging();
        claim();
        bestWork();
    }

    private void judging() {
        of(0);
        says("A claim is of a heat taken at a temperature, and a work made of it, the rest being given at a lower one");
        due(() -> judged(1200, 600, 300, 600), '-');
        due(() -> judged(1200, 300, 299, 600), 'd');
        // 7 taken at 700 are 10, 1 given at 100 is 10
        due(() -> judged(7, 700, 100, 6), '-');
        due(() -> judged(7, 700, 101, 6), 'd');
        due(() -> judged(7, 699, 100, 6), 'd');
        says("'e' if the work is more than the heat");
        due(() -> judged(1000, 600, 300, 1001), 'e');
        due(() -> judged(1000, 600, 300, 1000), 'd');
        due(() -> judged(1, 2000, 50, 2), 'e');
        due(() -> judged(1, 2000, 50, 1), 'd');
        due(() -> judged(100000, 2000, 50, 100001), 'e');
        due(() -> judged(100000, 2000, 50, 100000), 'd');
        due(() -> judged(1, 51, 50, 200000), 'e');
        says("'d' if less than 0 is made of disorder");
        due(() -> judged(2, 2000, 1000, 2), 'd');
        due(() -> judged(2, 2000, 1000, 1), '-');
        due(() -> judged(1, 2000, 1001, 0), 'd');
        due(() -> judged(1, 2000, 1000, 0), '-');
        // 1666.67, rounded up; 501 given at 300 are 1670, 500 are 1666.67, cut
        due(() -> judged(1000, 600, 300, 500), 'd');
        due(() -> judged(1000, 600, 300, 499), '-');
        says("else '-'");
        due(() -> judged(1000, 600, 300, 0), '-');
        due(() -> judged(100000, 2000, 50, 0), '-');
        due(() -> judged(100000, 2000, 50, 97500), '-');
        due(() -> judged(100000, 2000, 50, 97501), 'd');
    }

    /** Temperatures that are refused whatever else is told. */
    private static final int[][] WRONG = {
        {2001, 300}, {MOST, 300}, {600, 49}, {600, -50}, {600, LEAST}, {50, 50}, {50, 49}, {49, 48}, {49, 50},
        {600, 600}, {600, 601}, {2000, 2000}, {2000, 2001}, {LEAST, MOST}, {MOST, LEAST}, {LEAST, 50}, {1999, 2000},
    };

    private void claim() {
        of(47);
        says("Judges a claim.", "Returns 'e', 'd' or '-'.");
        due(() -> judged(1000, 600, 300, 499), '-');
        due(() -> judged(1000, 600, 300, 501), 'd');
        due(() -> judged(1000, 600, 300, 1001), 'e');
        says("heat: the heat, 1 to 100000");
        range(Cycleworks::new, 1, 100000, (x, n) -> x.claim(n, 600, 300, 0), RANGE);
        says("hot: the temperature, 50 to 2000");
        range(Cycleworks::new, 51, 2000, (x, n) -> x.claim(1000, n, 50, 0), RANGE);
        says("cold: the lower one, 50 to 2000");
        range(Cycleworks::new, 50, 1999, (x, n) -> x.claim(1000, 2000, n, 0), RANGE);
        says("work: the work, 0 to 200000");
        range(Cycleworks::new, 0, 200000, (x, n) -> x.claim(1000, 600, 300, n), RANGE);
        range(Cycleworks::new, 0, 200000, (x, n) -> x.claim(100000, 600, 300, n), RANGE);
        says("Throws IllegalArgumentException if a number is out of range, or the lower one is not lower");
        for (int[] pair : WRONG) {
            refuses(Cycleworks::new, x -> x.claim(1000, pair[0], pair[1], 10), RANGE);
            refuses(Cycleworks::new, x -> x.claim(1000, pair[0], pair[1], 1001), RANGE);
        }
        refuses(Cycleworks::new, x -> x.claim(0, 600, 300, 1), RANGE);
        refuses(Cycleworks::new, x -> x.claim(100001, 600, 300, 1), RANGE);
        refuses(Cycleworks::new, x -> x.claim(1, 600, 300, -1), RANGE);
        refuses(Cycleworks::new, x -> x.claim(1, 600, 300, 200001), RANGE);
    }

    private void bestWork() {
        of(48);
        says("Returns the greatest work by which a claim is not refused.", "Returns the work.");
        int[][] claims = {
            {1, 1000, 999}, {1, 2000, 50}, {2, 2000, 1000}, {7, 700, 100}, {1000, 600, 300}, {1200, 600, 300},
            {1000, 590, 310}, {999, 301, 300}, {100, 51, 50}, {3000, 2000, 1999}, {3000, 2000, 50}, {17, 51, 50},
            {1, 60, 59}, {1, 51, 50}, {1, 999, 998}, {59, 60, 59}, {60, 60, 59}, {61, 60, 59},
        };
        for (int[] each : claims) {
            due(() -> best(each[0], each[1], each[2]), tried(each[0], each[1], each[2]));
        }
        due(() -> best(1000, 600, 300), 499);
        due(() -> best(1200, 600, 300), 600);
        due(() -> best(100000, 2000, 50), 97500);
        due(() -> best(1, 1000, 999), 0);
        due(() -> best(100000, 51, 50), 1960);
        says("heat: the heat, 1 to 100000");
        range(Cycleworks::new, 1, 100000, (x, n) -> x.bestWork(n, 600, 300), RANGE);
        says("hot: the temperature, 50 to 2000");
        range(Cycleworks::new, 51, 2000, (x, n) -> x.bestWork(1000, n, 50), RANGE);
        says("cold: the lower one, 50 to 2000");
        range(Cycleworks::new, 50, 1999, (x, n) -> x.bestWork(1000, 2000, n), RANGE);
        says("Throws IllegalArgumentException if a number is out of range, or the lower one is not lower");
        for (int[] pair : WRONG) {
            refuses(Cycleworks::new, x -> x.bestWork(1000, pair[0], pair[1]), RANGE);
            refuses(Cycleworks::new, x -> x.bestWork(1, pair[0], pair[1]), RANGE);
        }
        refuses(Cycleworks::new, x -> x.bestWork(0, 60, 59), RANGE);
        refuses(Cycleworks::new, x -> x.bestWork(100001, 60, 59), RANGE);
        says("Throws NoSuchElementException if there is none");
        refuses(Cycleworks::new, x -> x.bestWork(1, 60, 59), NONE);
        refuses(Cycleworks::new, x -> x.bestWork(1, 999, 998), NONE);
    }
}
