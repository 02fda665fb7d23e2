/** The sentences on the table of vapours and its states. */
final class VapourSentences extends Chapter {
    VapourSentences(Document document, Check check) {
        super(document, check);
    }

    /** A table: each four numbers are a pressure, its boiling temperature, and the heats of liquid and vapour. */
    static Cycleworks with(int... numbers) {
        Cycleworks x = new Cycleworks();
        for (int i = 0; i + 3 < numbers.length; i += 4) {
            x.addRow(numbers[i], numbers[i + 1], numbers[i + 2], numbers[i + 3]);
        }
        return x;
    }

    static Cycleworks steam() {
        return with(10, 320, 190, 2580, 100, 450, 760, 2780, 200, 490, 910, 2790);
    }

    private static Cycleworks one() {
        return with(10, 100, 5000, 6000);
    }

    /** Gaps of 7, in which vapour falls first and rises then. */
    private static Cycleworks sevenths() {
        return with(10, 100, 50, 5000, 17, 120, 60, 4990, 24, 121, 160, 5090);
    }

    private static Cycleworks full() {
        Cycleworks x = new Cycleworks();
        for (int row = 1; row <= 8; row++) {
            x.addRow(10 * row, 100 + row, row, 9000);
        }
        return x;
    }

    @Override
    void run() {
        rows();
        growing();
        between();
        beyond();
        states();
        dryness();
        temperature();
        adding();
        of(11);
        lookups("boiling temperature", (x, pressure) -> x.getBoiling(pressure), 320, 322, 490);
        of(12);
        lookups("heat of liquid", (x, pressure) -> x.getLiquid(pressure), 190, 202, 910);
        of(13);
        lookups("heat of vapour", (x, pressure) -> x.getVapour(pressure), 2580, 2584, 2790);
        of(14);
        states("phase", (x, pressure, heat) -> x.getPhase(pressure, heat), 'l', 'w');
        of(15);
        states("dryness", (x, pressure, heat) -> x.getDryness(pressure, heat), 0, 0);
        of(16);
        states("temperature", (x, pressure, heat) -> x.stateTemperature(pressure, heat), 320 - 47, 320);
    }

    private void rows() {
        of(0);
        says("A table has at most 8 rows");
        Cycleworks x = new Cycleworks();
        for (int row = 1; row <= 8; row++) {
            int number = row;
            due(() -> x.addRow(10 * number, 100 + number, number, 9000), number);
        }
        due(() -> x.getBoiling(80), 108);
        refuses(VapourSentences::full, y -> y.addRow(90, 200, 100, 9000), STATE);
        says("a pressure, 1 to 1000");
        range(Cycleworks::new, 1, 1000, (y, n) -> y.addRow(n, 100, 0, 1), RANGE);
        due(() -> with(1, 100, 0, 1).getBoiling(1), 100);
        due(() -> with(1000, 100, 0, 1).getBoiling(1000), 100);
        says("a boiling temperature, 50 to 999");
        range(Cycleworks::new, 50, 999, (y, n) -> y.addRow(10, n, 0, 1), RANGE);
        due(() -> with(10, 50, 0, 1).getBoiling(10), 50);
        due(() -> with(10, 999, 0, 1).getBoiling(10), 999);
        says("the heats of liquid and of vapour at it, 0 to 9999");
        range(Cycleworks::new, 0, 9999, (y, n) -> y.addRow(10, 100, n, 9999), RANGE);
        range(Cycleworks::new, 0, 9999, (y, n) -> y.addRow(10, 100, 0, n), RANGE);
        due(() -> with(10, 100, 0, 9999).getLiquid(10), 0);
        due(() -> with(10, 100, 0, 9999).getVapour(10), 9999);
        due(() -> with(10, 100, 9998, 9999).getLiquid(10), 9998);
    }

    private void growing() {
        says("each further row has a greater pressure, boiling temperature and heat of liquid");
        Make one = VapourSentences::one;
        due(one, x -> x.addRow(11, 101, 5001, 6000), 2);
        refuses(one, x -> x.addRow(10, 101, 5001, 6000), NOT);
        refuses(one, x -> x.addRow(9, 101, 5001, 6000), NOT);
        refuses(one, x -> x.addRow(11, 100, 5001, 6000), NOT);
        refuses(one, x -> x.addRow(11, 99, 5001, 6000), NOT);
        refuses(one, x -> x.addRow(11, 101, 5000, 6000), NOT);
        refuses(one, x -> x.addRow(11, 101, 4999, 6000), NOT);
        refuses(one, x -> x.addRow(10, 100, 5000, 6000), NOT);
        // greater than the first row is not enough
        refuses(VapourSentences::steam, x -> x.addRow(150, 491, 911, 2790), NOT);
        refuses(VapourSentences::steam, x -> x.addRow(201, 480, 911, 2790), NOT);
        refuses(VapourSentences::steam, x -> x.addRow(201, 491, 800, 2790), NOT);
        refuses(VapourSentences::steam, x -> x.addRow(200, 491, 911, 2790), NOT);
        due(VapourSentences::steam, x -> x.addRow(201, 491, 911, 912), 4);
        says("in each vapour has more heat than liquid");
        due(() -> new Cycleworks().addRow(10, 100, 500, 501), 1);
        due(() -> new Cycleworks().addRow(10, 100, 0, 1), 1);
        refuses(Cycleworks::new, x -> x.addRow(10, 100, 500, 500), NOT);
        refuses(Cycleworks::new, x -> x.addRow(10, 100, 500, 499), NOT);
        refuses(Cycleworks::new, x -> x.addRow(10, 100, 0, 0), NOT);
        refuses(Cycleworks::new, x -> x.addRow(10, 100, 9999, 9999), NOT);
        refuses(one, x -> x.addRow(11, 101, 5001, 5001), NOT);
        refuses(one, x -> x.addRow(11, 101, 5001, 5000), NOT);
        // it need not have more than vapour of the row ahead
        due(one, x -> x.addRow(11, 101, 5001, 5002), 2);
    }

    private void between() {
        Make sevenths = VapourSentences::sevenths;
        says("Between two rows all three go from the lower row on by the part of their difference that the pressure "
                + "has of its own, cut");
        due(sevenths, x -> x.getBoiling(10), 100);
        due(sevenths, x -> x.getLiquid(10), 50);
        due(sevenths, x -> x.getVapour(10), 5000);
        // 1 of 7: 2.86, 1.43, and 1.43 less
        due(sevenths, x -> x.getBoiling(11), 102);
        due(sevenths, x -> x.getLiquid(11), 51);
        due(sevenths, x -> x.getVapour(11), 4999);
        // 6 of 7: 17.14, 8.57, and 8.57 less
        due(sevenths, x -> x.getBoiling(16), 117);
        due(sevenths, x -> x.getLiquid(16), 58);
        due(sevenths, x -> x.getVapour(16), 4992);
        due(sevenths, x -> x.getBoiling(17), 120);
        due(sevenths, x -> x.getLiquid(17), 60);
        due(sevenths, x -> x.getVapour(17), 4990);
        // 1 of 7 and 6 of 7 in the next gap: 0.14 and 0.86, 14.29 and 85.71
        due(sevenths, x -> x.getBoiling(18), 120);
        due(sevenths, x -> x.getBoiling(23), 120);
        due(sevenths, x -> x.getLiquid(18), 74);
        due(sevenths, x -> x.getVapour(23), 5075);
        due(sevenths, x -> x.getBoiling(24), 121);
        due(sevenths, x -> x.getLiquid(24), 160);
        due(sevenths, x -> x.getVapour(24), 5090);
        // the widest gap
        due(() -> with(1, 50, 0, 9999, 1000, 999, 9998, 9999).getLiquid(999), 9987);
        due(() -> with(1, 50, 0, 9999, 1000, 999, 9998, 9999).getBoiling(2), 50);
        due(() -> with(1, 50, 0, 9999, 1000, 999, 9998, 9999).getBoiling(999), 998);
        due(() -> with(10, 100, 5, 6, 12, 103, 9, 10).getVapour(11), 8);
    }

    private void beyond() {
        says("Beyond the rows there are none");
        for (int pressure : new int[] {LEAST, -1, 0, 1, 9, 201, 1000, 1001, MOST}) {
            refuses(VapourSentences::steam, x -> x.getBoiling(pressure), NONE);
            refuses(Cycleworks::new, x -> x.getBoiling(pressure), NONE);
        }
        due(VapourSentences::one, x -> x.getBoiling(10), 100);
        refuses(VapourSentences::one, x -> x.getBoiling(9), NONE);
        refuses(VapourSentences::one, x -> x.getBoiling(11), NONE);
        refuses(VapourSentences::full, x -> x.getBoiling(81), NONE);
        due(VapourSentences::full, x -> x.getBoiling(79), 107);
    }

    private void states() {
        Make one = VapourSentences::one;
        says("A state is a pressure and a heat");
        due(VapourSentences::steam, x -> x.getPhase(10, 475), 'w');
        due(VapourSentences::steam, x -> x.getPhase(55, 475), 'w');
        due(VapourSentences::steam, x -> x.getPhase(56, 475), 'l');
        due(VapourSentences::steam, x -> x.getPhase(10, 2600), 'v');
        due(VapourSentences::steam, x -> x.getPhase(100, 2600), 'w');
        says("'l' liquid, with a heat below that of liquid, 'v' vapour, with one above that of vapour, else 'w' wet");
        due(one, x -> x.getPhase(10, 0), 'l');
        due(one, x -> x.getPhase(10, 4999), 'l');
        due(one, x -> x.getPhase(10, 5000), 'w');
        due(one, x -> x.getPhase(10, 5001), 'w');
        due(one, x -> x.getPhase(10, 5999), 'w');
        due(one, x -> x.getPhase(10, 6000), 'w');
        due(one, x -> x.getPhase(10, 6001), 'v');
        due(one, x -> x.getPhase(10, 20000), 'v');
        due(() -> with(10, 100, 0, 1).getPhase(10, 0), 'w');
    }

    private void dryness() {
        Make one = VapourSentences::one;
        says("The dryness of a wet one is, in thousandths, how much its heat is above that of liquid, of how much "
                + "vapour has more, cut");
        due(one, x -> x.getDryness(10, 5000), 0);
        due(one, x -> x.getDryness(10, 5001), 1);
        due(one, x -> x.getDryness(10, 5999), 999);
        due(one, x -> x.getDryness(10, 6000), 1000);
        // 666.67 and 333.33; 1 of 2390 is 0.42
        due(() -> with(10, 100, 5, 8).getDryness(10, 7), 666);
        due(() -> with(10, 100, 5, 8).getDryness(10, 6), 333);
        due(VapourSentences::steam, x -> x.getDryness(10, 191), 0);
        due(VapourSentences::steam, x -> x.getDryness(10, 2579), 999);
        due(() -> with(10, 100, 0, 9999).getDryness(10, 9998), 999);
        due(() -> with(10, 100, 0, 1).getDryness(10, 1), 1000);
        says("of liquid it is 0, of vapour 1000");
        due(one, x -> x.getDryness(10, 4999), 0);
        due(one, x -> x.getDryness(10, 0), 0);
        due(one, x -> x.getDryness(10, 6001), 1000);
        due(one, x -> x.getDryness(10, 20000), 1000);
    }

    private void temperature() {
        Make one = VapourSentences::one;
        says("Its temperature is that of boiling, for liquid less a fourth, cut, of what it lacks of the heat of "
                + "liquid, for vapour more by half, cut, of what it has above that of vapour");
        due(one, x -> x.stateTemperature(10, 5000), 100);
        due(one, x -> x.stateTemperature(10, 5500), 100);
        due(one, x -> x.stateTemperature(10, 6000), 100);
        due(one, x -> x.stateTemperature(10, 4999), 100);
        due(one, x -> x.stateTemperature(10, 4997), 100);
        due(one, x -> x.stateTemperature(10, 4996), 99);
        due(one, x -> x.stateTemperature(10, 4993), 99);
        due(one, x -> x.stateTemperature(10, 4992), 98);
        due(one, x -> x.stateTemperature(10, 6001), 100);
        due(one, x -> x.stateTemperature(10, 6002), 101);
        due(one, x -> x.stateTemperature(10, 6003), 101);
        due(one, x -> x.stateTemperature(10, 20000), 100 + 7000);
        says("1 at least");
        due(one, x -> x.stateTemperature(10, 4605), 2);
        due(one, x -> x.stateTemperature(10, 4604), 1);
        due(one, x -> x.stateTemperature(10, 4601), 1);
        due(one, x -> x.stateTemperature(10, 4600), 1);
        due(one, x -> x.stateTemperature(10, 4596), 1);
        due(one, x -> x.stateTemperature(10, 0), 1);
    }

    private void adding() {
        of(10);
        says("Adds a row to the table of vapours.", "Returns how many there are.");
        due(() -> new Cycleworks().addRow(10, 100, 5000, 6000), 1);
        due(VapourSentences::one, x -> x.addRow(11, 101, 5001, 6000), 2);
        due(VapourSentences::steam, x -> x.addRow(1000, 999, 9998, 9999), 4);
        says("Throws IllegalArgumentException if a number is out of range");
        refuses(Cycleworks::new, x -> x.addRow(0, 100, 0, 1), RANGE);
        refuses(Cycleworks::new, x -> x.addRow(1001, 100, 0, 1), RANGE);
        refuses(Cycleworks::new, x -> x.addRow(1, 49, 0, 1), RANGE);
        refuses(Cycleworks::new, x -> x.addRow(1, 1000, 0, 1), RANGE);
        refuses(Cycleworks::new, x -> x.addRow(1, 100, -1, 1), RANGE);
        refuses(Cycleworks::new, x -> x.addRow(1, 100, 10000, 9999), RANGE);
        refuses(Cycleworks::new, x -> x.addRow(1, 100, 0, -1), RANGE);
        refuses(Cycleworks::new, x -> x.addRow(1, 100, 0, 10000), RANGE);
        refuses(VapourSentences::steam, x -> x.addRow(0, 100, 0, 0), RANGE);
        refuses(VapourSentences::steam, x -> x.addRow(150, 1000, 0, 1), RANGE);
        refuses(VapourSentences::full, x -> x.addRow(1001, 999, 100, 9000), RANGE);
        refuses(VapourSentences::full, x -> x.addRow(10, 49, 100, 100), RANGE);
        says("Throws UnsupportedOperationException if one that must be greater is not");
        refuses(Cycleworks::new, x -> x.addRow(10, 100, 1, 1), NOT);
        refuses(VapourSentences::one, x -> x.addRow(10, 101, 5001, 6000), NOT);
        refuses(VapourSentences::one, x -> x.addRow(11, 100, 5001, 6000), NOT);
        refuses(VapourSentences::one, x -> x.addRow(11, 101, 5000, 6000), NOT);
        refuses(VapourSentences::full, x -> x.addRow(80, 109, 9, 9000), NOT);
        refuses(VapourSentences::full, x -> x.addRow(81, 108, 9, 9000), NOT);
        refuses(VapourSentences::full, x -> x.addRow(81, 109, 8, 9000), NOT);
        refuses(VapourSentences::full, x -> x.addRow(81, 109, 9, 9), NOT);
        says("Throws IllegalStateException if there are 8");
        refuses(VapourSentences::full, x -> x.addRow(81, 109, 9, 10), STATE);
        refuses(VapourSentences::full, x -> x.addRow(1000, 999, 9998, 9999), STATE);
    }

    /** What is told of a pressure: at 10, at 12 and at 200 of the table. */
    private void lookups(String what, OnNumber call, int first, int between, int last) {
        says("Returns the " + what + ".", what.startsWith("heat") ? "Returns the heat." : "Returns the temperature.");
        due(VapourSentences::steam, x -> call.answer(x, 10), first);
        due(VapourSentences::steam, x -> call.answer(x, 12), between);
        due(VapourSentences::steam, x -> call.answer(x, 200), last);
        says("Throws NoSuchElementException if the pressure is beyond the rows");
        for (int pressure : new int[] {LEAST, 0, 9, 201, 1001, MOST}) {
            refuses(VapourSentences::steam, x -> call.answer(x, pressure), NONE);
        }
        refuses(Cycleworks::new, x -> call.answer(x, 1), NONE);
        refuses(VapourSentences::one, x -> call.answer(x, 9), NONE);
        refuses(VapourSentences::one, x -> call.answer(x, 11), NONE);
    }

    private interface OnState {
        Object answer(Cycleworks x, int pressure, int heat);
    }

    /** What is told of a state: of the heats 0 and 190 at 10 of the table. */
    private void states(String what, OnState call, Object atNone, Object atLiquid) {
        Make steam = VapourSentences::steam;
        if (what.equals("temperature") || what.equals("phase")) {
            says("Returns the " + what + " of a state.", what.equals("phase") ? "Returns 'l', 'w' or 'v'."
                    : "Returns the temperature.");
        } else {
            says("Returns the dryness of a state.", "Returns the thousandths.");
        }
        due(steam, x -> call.answer(x, 10, 0), atNone);
        due(steam, x -> call.answer(x, 10, 190), atLiquid);
        says("heat: the heat, 0 to 20000");
        range(steam, 0, 20000, (x, n) -> call.answer(x, 10, n), RANGE);
        says("Throws IllegalArgumentException if the heat is out of range");
        refuses(steam, x -> call.answer(x, 10, -1), RANGE);
        refuses(steam, x -> call.answer(x, 10, 20001), RANGE);
        refuses(steam, x -> call.answer(x, 9, -1), RANGE);
        refuses(steam, x -> call.answer(x, 201, 20001), RANGE);
        refuses(Cycleworks::new, x -> call.answer(x, 10, -1), RANGE);
        refuses(Cycleworks::new, x -> call.answer(x, 10, 20001), RANGE);
        says("Throws NoSuchElementException if the pressure is beyond the rows");
        for (int pressure : new int[] {LEAST, 0, 9, 201, 1001, MOST}) {
            refuses(steam, x -> call.answer(x, pressure, 0), NONE);
            refuses(steam, x -> call.answer(x, pressure, 20000), NONE);
        }
        refuses(Cycleworks::new, x -> call.answer(x, 10, 190), NONE);
    }
}
