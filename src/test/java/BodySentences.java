/** The sentences on bodies, engines and pumps. */
final class BodySentences extends Chapter {
    BodySentences(Document document, Check check) {
        super(document, check);
    }

    /** At most 8 bodies: each two numbers are a temperature and a capacity. */
    static Cycleworks with(int... numbers) {
        Cycleworks x = new Cycleworks();
        for (int i = 0; i + 1 < numbers.length; i += 2) {
            x.addBody(numbers[i], numbers[i + 1]);
        }
        return x;
    }

    private static Cycleworks two() {
        return with(600, 100, 300, 100);
    }

    private static Cycleworks full() {
        return with(300, 7, 301, 7, 302, 7, 303, 7, 304, 7, 305, 7, 306, 7, 307, 7);
    }

    /** Three bodies at 350, of which the first one has a heat more. */
    private static Cycleworks level(int more, int moreOfSecond) {
        Cycleworks x = with(350, 10, 350, 10, 2000, 1000);
        if (more > 0) {
            x.conduct(2, 0, more);
        }
        if (moreOfSecond > 0) {
            x.conduct(2, 1, moreOfSecond);
        }
        return x;
    }

    @Override
    void run() {
        numbers();
        disorder();
        heat();
        enginesAndPumps();
        coldest();
        adding();
        telling();
        conduct();
        runEngine();
        runPump();
    }

    private void numbers() {
        of(0);
        says("At most 8 are numbered from 0");
        Cycleworks x = new Cycleworks();
        for (int body = 0; body < 8; body++) {
            int number = body;
            due(() -> x.addBody(300 + number, 7), number);
        }
        due(() -> x.getTemperature(0), 300);
        due(() -> x.getTemperature(7), 307);
        refuses(BodySentences::full, y -> y.addBody(300, 7), STATE);
        says("a capacity, 1 to 1000");
        range(Cycleworks::new, 1, 1000, (y, n) -> y.addBody(300, n), RANGE);
        due(() -> with(300, 1).getEnergy(0), 300);
        due(() -> with(300, 1000).getEnergy(0), 300000);
        says("an energy, at first the capacity times a temperature, 50 to 2000");
        range(Cycleworks::new, 50, 2000, (y, n) -> y.addBody(n, 3), RANGE);
        due(() -> with(50, 1).getEnergy(0), 50);
        due(() -> with(2000, 1000).getEnergy(0), 2000000);
        says("its temperature is its energy divided by its capacity, cut");
        due(() -> level(9, 0).getEnergy(0), 3509);
        due(() -> level(9, 0).getTemperature(0), 350);
        due(() -> level(10, 0).getTemperature(0), 351);
        // 3500 less 1 is 349.9
        due(() -> {
            Cycleworks y = with(350, 10, 300, 10);
            y.conduct(0, 1, 1);
            return y.getTemperature(0);
        }, 349);
    }

    private void disorder() {
        says("The disorder of a heat at a temperature is 1000 times the heat, divided by the temperature");
        due(() -> with(2000, 1000, 50, 1000).conduct(0, 1, 100000), 2000000 - 50000);
        due(() -> with(1000, 1, 500, 1).conduct(0, 1, 50), 100 - 50);
        says("What is made of it is that of heats given, each cut, less that of the heat taken, rounded up");
        // 3.33 and 1.43
        due(() -> with(700, 10, 300, 10).conduct(0, 1, 1), 3 - 2);
        // 23.33 and 10
        due(() -> with(700, 10, 300, 10).conduct(0, 1, 7), 23 - 10);
        // 10 and 4.29
        due(() -> with(700, 10, 300, 10).conduct(0, 1, 3), 10 - 5);
        due(() -> with(700, 10, 300, 10).runEngine(0, 1, 8, 1), 23 - 12);
        due(() -> with(700, 10, 300, 10).runPump(0, 1, 1, 1), 6 - 2);
        says("by the temperatures ahead of both");
        // behind that both are at 325
        due(() -> with(600, 1, 50, 1).conduct(0, 1, 275), 5500 - 459);
        due(() -> with(600, 1, 50, 1).runEngine(0, 1, 275, 1), 5480 - 459);
        due(() -> with(600, 1, 50, 1).runPump(0, 1, 275, 1), 5520 - 459);
    }

    private void heat() {
        Make wide = () -> with(2000, 1000, 50, 1000);
        says("A heat, 1 to 100000, goes from a body to another one by itself");
        range(wide, 1, 100000, (x, n) -> x.conduct(0, 1, n), RANGE);
        due(wide, x -> x.conduct(0, 1, 1), 20 - 1);
        due(wide, x -> x.conduct(0, 1, 100000), 1950000);
        due(wide, x -> x.conduct(0, 1, 100000) + x.getEnergy(0), 1950000 + 1900000);
        due(wide, x -> x.conduct(0, 1, 100000) + x.getEnergy(1), 1950000 + 150000);
        says("if the temperature of the first one is not less ahead of that and behind it");
        refuses(() -> with(300, 10, 301, 10), x -> x.conduct(0, 1, 1), NOT);
        refuses(() -> with(300, 10, 2000, 10), x -> x.conduct(0, 1, 2000), NOT);
        due(() -> with(400, 10, 300, 10).conduct(0, 1, 500), 1666 - 1250);
        // 3499 are 349, and 3501 are 350
        refuses(() -> with(400, 10, 300, 10), x -> x.conduct(0, 1, 501), NOT);
        refuses(() -> with(400, 10, 300, 10), x -> x.conduct(0, 1, 3500), NOT);
        // equal ahead and behind, also if the first one has the less energy
        due(() -> level(9, 0).conduct(0, 1, 9), 0);
        due(() -> level(4, 5).conduct(0, 1, 4), 0);
        refuses(() -> level(4, 5), x -> x.conduct(0, 1, 5), NOT);
        refuses(() -> level(4, 6), x -> x.conduct(0, 1, 4), NOT);
        says("then 0 is made at least");
        // 9000 / 350 is 25.7
        Cycleworks x = level(9, 0);
        int made = x.getMade();
        due(() -> x.conduct(0, 1, 9), 0);
        due(() -> x.getMade(), made);
        due(() -> level(7, 0).conduct(0, 1, 7), 20 - 20);
        due(() -> with(351, 10, 350, 10).conduct(0, 1, 1), 0);
    }

    private void enginesAndPumps() {
        says("An engine takes a heat from a body, gives a part of it to another one, and makes the rest work, "
                + "which is 0 to that heat");
        range(BodySentences::two, 0, 1000, (x, n) -> x.runEngine(0, 1, 1000, n), RANGE);
        range(BodySentences::two, 0, 1, (x, n) -> x.runEngine(0, 1, 1, n), RANGE);
        due(() -> two().runEngine(0, 1, 1000, 0), 3333 - 1667);
        Cycleworks x = two();
        due(() -> x.runEngine(0, 1, 1000, 400), 2000 - 1667);
        due(() -> x.getEnergy(0), 59000);
        due(() -> x.getEnergy(1), 30600);
        due(() -> x.getWork(), 400);
        refuses(BodySentences::two, y -> y.runEngine(0, 1, 1000, 1000), NOT);
        says("A pump takes a heat from a body, and gives it, and some work, 0 to 100000, to another one");
        range(BodySentences::two, 0, 100000, (y, n) -> y.runPump(1, 0, 1, n), RANGE);
        due(() -> two().runPump(0, 1, 1000, 0), 3333 - 1667);
        Cycleworks z = two();
        due(() -> z.runPump(1, 0, 1, 100000), 166668 - 4);
        due(() -> z.getEnergy(0), 160001);
        due(() -> z.getEnergy(1), 29999);
        due(() -> z.getWork(), -100000);
        says("An engine or a pump runs only if 0 or more is made");
        Make thousands = () -> with(2000, 1000, 1000, 1000);
        due(thousands, y -> y.runEngine(0, 1, 2, 1), 0);
        refuses(thousands, y -> y.runEngine(0, 1, 2, 2), NOT);
        due(thousands, y -> y.runPump(1, 0, 1, 1), 0);
        refuses(thousands, y -> y.runPump(1, 0, 1, 0), NOT);
        due(BodySentences::two, y -> y.runEngine(0, 1, 1200, 600), 0);
        refuses(BodySentences::two, y -> y.runEngine(0, 1, 1200, 601), NOT);
        // an engine to the hotter, and one between equal ones, makes less than 0 or 0
        refuses(BodySentences::two, y -> y.runEngine(1, 0, 300, 0), NOT);
        due(() -> with(500, 10, 500, 10).runEngine(0, 1, 1, 0), 0);
        refuses(() -> with(300, 10, 300, 10), y -> y.runEngine(0, 1, 1, 0), NOT);
    }

    private void coldest() {
        Make cold = () -> with(60, 10, 50, 1000);
        says("No body may fall below the temperature 50 by any of these");
        due(cold, x -> x.conduct(0, 1, 100), 2000 - 1667);
        refuses(cold, x -> x.conduct(0, 1, 101), NOT);
        due(cold, x -> x.runEngine(0, 1, 100, 0), 2000 - 1667);
        refuses(cold, x -> x.runEngine(0, 1, 101, 0), NOT);
        due(cold, x -> x.runPump(0, 1, 100, 0), 2000 - 1667);
        refuses(cold, x -> x.runPump(0, 1, 101, 100000), NOT);
        due(cold, x -> x.runPump(0, 1, 100, 0) + x.getTemperature(0), 333 + 50);
        refuses(() -> with(50, 1, 50, 1), x -> x.conduct(0, 1, 1), NOT);
        refuses(() -> with(50, 1, 50, 1), x -> x.runEngine(0, 1, 1, 0), NOT);
        refuses(() -> with(50, 1, 50, 1), x -> x.runPump(0, 1, 1, 100000), NOT);
        // the other body may well be at 50
        due(() -> with(60, 10, 50, 1).runEngine(0, 1, 100, 1), 1980 - 1667);
        says("All work made is summed up, that of pumps being less");
        Cycleworks x = two();
        due(() -> x.runEngine(0, 1, 1000, 474), 1753 - 1667);
        due(() -> x.getWork(), 474);
        due(() -> x.runPump(1, 0, 10, 100), 186 - 33);
        due(() -> x.getWork(), 374);
        due(() -> x.runPump(1, 0, 10, 374), 649 - 33);
        due(() -> x.getWork(), 0);
        due(() -> x.runPump(1, 0, 10, 1), NOT);
        due(() -> x.getWork(), 0);
        due(() -> x.runPump(0, 1, 10, 1), 36 - 17);
        due(() -> x.getWork(), -1);
    }

    private void adding() {
        of(2);
        says("Adds a body.", "Returns its number.");
        due(() -> new Cycleworks().addBody(300, 10), 0);
        due(() -> two().addBody(300, 10), 2);
        due(() -> with(300, 1, 300, 1, 300, 1, 300, 1, 300, 1, 300, 1, 300, 1).addBody(300, 10), 7);
        says("Throws IllegalArgumentException if a number is out of range");
        refuses(Cycleworks::new, x -> x.addBody(49, 10), RANGE);
        refuses(Cycleworks::new, x -> x.addBody(2001, 10), RANGE);
        refuses(Cycleworks::new, x -> x.addBody(300, 0), RANGE);
        refuses(Cycleworks::new, x -> x.addBody(300, 1001), RANGE);
        refuses(Cycleworks::new, x -> x.addBody(49, 1001), RANGE);
        refuses(Cycleworks::new, x -> x.addBody(-300, -10), RANGE);
        refuses(BodySentences::full, x -> x.addBody(49, 10), RANGE);
        refuses(BodySentences::full, x -> x.addBody(300, 1001), RANGE);
        says("Throws IllegalStateException if there are 8");
        refuses(BodySentences::full, x -> x.addBody(50, 1), STATE);
        refuses(BodySentences::full, x -> x.addBody(2000, 1000), STATE);
    }

    private void telling() {
        of(3);
        says("Returns the temperature of a body.", "Returns the temperature.");
        due(() -> two().getTemperature(0), 600);
        due(() -> two().getTemperature(1), 300);
        due(() -> with(50, 1).getTemperature(0), 50);
        due(() -> with(2000, 1000).getTemperature(0), 2000);
        says("Throws IndexOutOfBoundsException if there is no such body");
        for (int body : new int[] {LEAST, -1, 2, 7, 8, MOST}) {
            refuses(BodySentences::two, x -> x.getTemperature(body), INDEX);
        }
        refuses(Cycleworks::new, x -> x.getTemperature(0), INDEX);
        refuses(BodySentences::full, x -> x.getTemperature(8), INDEX);
        refuses(BodySentences::full, x -> x.getTemperature(-1), INDEX);
        of(4);
        says("Returns the energy of a body.", "Returns the energy.");
        due(() -> two().getEnergy(0), 60000);
        due(() -> two().getEnergy(1), 30000);
        due(() -> full().getEnergy(7), 2149);
        says("Throws IndexOutOfBoundsException if there is no such body");
        for (int body : new int[] {LEAST, -1, 2, 7, 8, MOST}) {
            refuses(BodySentences::two, x -> x.getEnergy(body), INDEX);
        }
        refuses(Cycleworks::new, x -> x.getEnergy(0), INDEX);
        refuses(BodySentences::full, x -> x.getEnergy(8), INDEX);
        refuses(BodySentences::full, x -> x.getEnergy(-1), INDEX);
    }

    private interface Move {
        Object run(Cycleworks x, int from, int to, int heat);
    }

    /** What the three ways to move a heat have in common. */
    private void refusedMoves(Move move) {
        says("Throws IndexOutOfBoundsException if there is no such body, for either");
        for (int body : new int[] {LEAST, -1, 2, 7, 8, MOST}) {
            refuses(BodySentences::two, x -> move.run(x, body, 1, 10), INDEX);
            refuses(BodySentences::two, x -> move.run(x, 0, body, 10), INDEX);
            refuses(BodySentences::two, x -> move.run(x, body, body, 10), INDEX);
            refuses(BodySentences::two, x -> move.run(x, body, 1, 0), INDEX);
            refuses(BodySentences::two, x -> move.run(x, 0, body, 100001), INDEX);
        }
        refuses(Cycleworks::new, x -> move.run(x, 0, 0, 10), INDEX);
        refuses(BodySentences::full, x -> move.run(x, 7, 8, 10), INDEX);
        says("Throws IllegalArgumentException if both are the same");
        refuses(BodySentences::two, x -> move.run(x, 0, 0, 10), RANGE);
        refuses(BodySentences::two, x -> move.run(x, 1, 1, 10), RANGE);
        refuses(BodySentences::two, x -> move.run(x, 1, 1, 100000), RANGE);
        refuses(BodySentences::two, x -> move.run(x, 1, 1, 0), RANGE);
    }

    private void conduct() {
        of(5);
        says("Lets heat go by itself.", "Returns what is made of disorder.");
        due(() -> two().conduct(0, 1, 1000), 3333 - 1667);
        due(() -> two().conduct(0, 1, 15000), 50000 - 25000);
        due(() -> level(9, 0).conduct(0, 1, 9), 0);
        Cycleworks x = two();
        due(() -> x.conduct(0, 1, 15000), 25000);
        due(() -> x.getEnergy(0) - x.getEnergy(1), 0);
        due(() -> x.getWork(), 0);
        refusedMoves((y, from, to, heat) -> y.conduct(from, to, heat));
        says("or the heat is out of range");
        range(BodySentences::two, 1, 100000, (y, n) -> y.conduct(0, 1, n), RANGE);
        range(BodySentences::two, 1, 100000, (y, n) -> y.conduct(1, 0, n), RANGE);
        says("Throws UnsupportedOperationException if it may not");
        refuses(BodySentences::two, y -> y.conduct(1, 0, 1), NOT);
        // 45000 each at 15000
        refuses(BodySentences::two, y -> y.conduct(0, 1, 15001), NOT);
        refuses(BodySentences::two, y -> y.conduct(0, 1, 100000), NOT);
    }

    private void runEngine() {
        of(6);
        says("Runs an engine.", "Returns what is made of disorder.");
        due(() -> two().runEngine(0, 1, 1000, 400), 2000 - 1667);
        due(() -> two().runEngine(0, 1, 1200, 600), 0);
        due(() -> with(2000, 1000, 50, 1000).runEngine(0, 1, 100000, 97500), 0);
        due(() -> with(2000, 1000, 50, 1000).runEngine(0, 1, 1, 0), 20 - 1);
        refusedMoves((x, from, to, heat) -> x.runEngine(from, to, heat, 1));
        says("or a number is out of range, the work above the heat, too");
        range(BodySentences::two, 1, 100000, (x, n) -> x.runEngine(0, 1, n, 0), RANGE);
        range(BodySentences::two, 0, 500, (x, n) -> x.runEngine(0, 1, 500, n), RANGE);
        refuses(BodySentences::two, x -> x.runEngine(0, 1, 500, -1), RANGE);
        refuses(BodySentences::two, x -> x.runEngine(0, 1, 100000, 100001), RANGE);
        refuses(BodySentences::two, x -> x.runEngine(0, 1, 0, 0), RANGE);
        refuses(BodySentences::two, x -> x.runEngine(2, 1, 500, 501), INDEX);
        says("Throws UnsupportedOperationException if it may not");
        refuses(BodySentences::two, x -> x.runEngine(0, 1, 100000, 0), NOT);
        refuses(BodySentences::two, x -> x.runEngine(0, 1, 1, 1), NOT);
        refuses(BodySentences::two, x -> x.runEngine(1, 0, 1000, 0), NOT);
        refuses(() -> with(2000, 1000, 50, 1000), x -> x.runEngine(0, 1, 100000, 97501), NOT);
    }

    private void runPump() {
        of(7);
        says("Runs a pump.", "Returns what is made of disorder.");
        due(() -> two().runPump(1, 0, 300, 300), 1000 - 1000);
        due(() -> two().runPump(1, 0, 300, 100000), 167166 - 1000);
        due(() -> with(2000, 1000, 50, 1000).runPump(0, 1, 100000, 100000), 4000000 - 50000);
        due(() -> two().runPump(0, 1, 6, 0), 20 - 10);
        refusedMoves((x, from, to, heat) -> x.runPump(from, to, heat, 1));
        says("or a number is out of range");
        range(BodySentences::two, 1, 100000, (x, n) -> x.runPump(0, 1, n, 0), RANGE);
        range(BodySentences::two, 0, 100000, (x, n) -> x.runPump(0, 1, 500, n), RANGE);
        refuses(BodySentences::two, x -> x.runPump(0, 1, 500, -1), RANGE);
        refuses(BodySentences::two, x -> x.runPump(0, 1, 500, 100001), RANGE);
        refuses(BodySentences::two, x -> x.runPump(0, 1, 0, 0), RANGE);
        refuses(BodySentences::two, x -> x.runPump(0, 2, 1, 100001), INDEX);
        says("Throws UnsupportedOperationException if it may not");
        refuses(BodySentences::two, x -> x.runPump(1, 0, 300, 299), NOT);
        due(() -> two().runPump(1, 0, 25000, 100000), 208333 - 83334);
        refuses(BodySentences::two, x -> x.runPump(1, 0, 25001, 100000), NOT);
        refuses(() -> with(100, 1000, 2000, 1), x -> x.runPump(0, 1, 50000, 0), NOT);
        due(() -> with(100, 1000, 90, 1).runPump(0, 1, 50000, 0), 555555 - 500000);
        refuses(() -> with(100, 1000, 90, 1), x -> x.runPump(0, 1, 50001, 0), NOT);
    }
}
