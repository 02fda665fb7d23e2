/** The sentences on rings of parts. */
final class PlantSentences extends Chapter {
    PlantSentences(Document document, Check check) {
        super(document, check);
    }

    /** Adds parts, such as "p 100", "t 10 80" or "c". */
    private static Cycleworks add(Cycleworks x, String... parts) {
        for (String part : parts) {
            String[] words = part.split(" ");
            int to = words.length > 1 ? Integer.parseInt(words[1]) : 0;
            x.addPart(part.charAt(0), to, words.length > 2 ? Integer.parseInt(words[2]) : 0);
        }
        return x;
    }

    static Cycleworks ring(String... parts) {
        return add(VapourSentences.steam(), parts);
    }

    /** A ring between 10 and 200 behind which a state of 2709 is as it was, solved. */
    static Cycleworks solved(int quality) {
        Cycleworks x = ring("t 10 " + quality, "c", "p 200", "h 2500");
        x.solve(200, 2709);
        return x;
    }

    private static Cycleworks half() {
        return solved(50);
    }

    /** Hardly any heat of liquid between its rows, far above which there is vapour. */
    private static Cycleworks flat(String... parts) {
        return add(VapourSentences.with(10, 100, 400, 9000, 19, 500, 401, 9001, 29, 501, 402, 9002), parts);
    }

    /** Hardly a degree between its rows, but much heat of liquid. */
    private static Cycleworks even(String... parts) {
        return add(VapourSentences.with(10, 100, 400, 9000, 19, 101, 5000, 9001), parts);
    }

    private static Cycleworks full() {
        return ring("c", "c", "c", "c", "c", "c", "c", "c");
    }

    @Override
    void run() {
        kinds();
        turbines();
        work();
        rounds();
        refusals();
        adding();
        solving();
        tellingWork();
        telling();
        plantWork();
    }

    private void kinds() {
        of(0);
        says("A ring has at most 8 parts");
        Cycleworks x = new Cycleworks();
        for (int part = 1; part <= 8; part++) {
            int number = part;
            due(() -> x.addPart('c', 0, 0), number);
        }
        refuses(PlantSentences::full, y -> y.addPart('c', 0, 0), STATE);
        due(PlantSentences::full, y -> y.solve(10, 200) + y.partHeat(7), 2);
        says("'p' a pump up to a pressure, by which the heat is more by a tenth, cut, of how much the pressure rises, "
                + "which is work put in");
        int[][] rises = {{11, 0}, {19, 0}, {20, 1}, {29, 1}, {30, 2}, {109, 9}, {110, 10}, {200, 19}};
        for (int[] rise : rises) {
            Make made = () -> ring("p " + rise[0], "v 10", "c");
            due(made, y -> y.solve(10, 190), 1);
            due(made, y -> y.solve(10, 190) + y.partWork(0), 1 - rise[1]);
            due(made, y -> y.solve(10, 190) + y.heatAhead(1), 1 + 190 + rise[1]);
            due(made, y -> y.solve(10, 190) + y.pressureAhead(1), 1 + rise[0]);
            due(made, y -> y.solve(10, 190) + y.partHeat(0), 1);
            due(made, y -> y.solve(10, 190) + y.partLost(0), 1);
        }
        says("'h' a heater, by a heat, 1 to 9999");
        range(VapourSentences::steam, 1, 9999, (y, n) -> y.addPart('h', n, 0), RANGE);
        for (int heat : new int[] {1, 9999}) {
            due(() -> ring("h " + heat, "c"), y -> y.solve(10, 190) + y.partHeat(0), 1 + heat);
            due(() -> ring("h " + heat, "c"), y -> y.solve(10, 190) + y.partHeat(1), 1 - heat);
            due(() -> ring("h " + heat, "c"), y -> y.solve(10, 190) + y.partWork(0), 1);
        }
        says("'t' a turbine down to a pressure, with a quality, 0 to 100");
        range(VapourSentences::steam, 0, 100, (y, n) -> y.addPart('t', 10, n), RANGE);
        due(() -> solved(0).pressureAhead(1), 10);
        due(() -> solved(100).pressureAhead(1), 10);
        says("'c' a condenser, which takes heat till liquid just boils");
        due(() -> ring("c").solve(10, 20000), 2);
        due(() -> ring("c").solve(10, 190), 1);
        due(() -> ring("h 7", "c"), y -> y.solve(55, 475) + y.partHeat(1), 1 - 7);
        due(() -> ring("h 7", "c"), y -> y.solve(55, 475) + y.heatAhead(1), 1 + 482);
        due(() -> ring("h 7", "c"), y -> y.solve(55, 475) + y.partWork(1), 1);
        says("'v' a valve down to a pressure");
        Make valve = () -> ring("v 10", "c", "p 200");
        due(valve, y -> y.solve(200, 209) + y.pressureAhead(1), 1 + 10);
        due(valve, y -> y.solve(200, 209) + y.heatAhead(1), 1 + 209);
        due(valve, y -> y.solve(200, 209) + y.partWork(0), 1);
        due(valve, y -> y.solve(200, 209) + y.partHeat(0), 1);
        due(valve, y -> y.solve(200, 209) + y.partLost(0), 1);
    }

    private void turbines() {
        says("A turbine could make work of the heat above that of liquid at the lower pressure");
        // 490 degrees ahead of it, 170 above 320: (2709 - 190) * 170 / 490 = 873.9
        due(() -> solved(100).partWork(0), 873);
        due(() -> solved(100).heatAhead(1), 2709 - 873);
        says("times how much the temperature ahead of it is above that of boiling at the lower pressure, divided by "
                + "the temperature ahead of it, cut");
        // vapour, 590 degrees ahead of it: 2800 * 270 / 590 = 1281.4
        Make vapour = () -> ring("t 10 100", "c", "p 200", "h 2781");
        due(vapour, x -> x.solve(200, 2990), 1);
        due(vapour, x -> x.solve(200, 2990) + x.partWork(0), 1 + 1281);
        // liquid, 488 degrees ahead of it: 710 * 168 / 488 = 244.4
        Make liquid = () -> ring("t 10 100", "c", "p 200", "h 691");
        due(liquid, x -> x.solve(200, 900), 1);
        due(liquid, x -> x.solve(200, 900) + x.partWork(0), 1 + 244);
        // to 100, where liquid has 760 and 450 degrees: 1949 * 40 / 490 = 159.1
        Make higher = () -> ring("t 100 100", "c", "p 200", "h 1939");
        due(higher, x -> x.solve(200, 2709), 1);
        due(higher, x -> x.solve(200, 2709) + x.partWork(0), 1 + 159);
        says("0 if one of both factors is not above 0");
        // at 19 liquid has 247 and 333 degrees. 100: 36 degrees less are 297, so both factors are below 0
        for (int heat : new int[] {100, 0, 192, 195, 191, 190}) {
            Make cold = () -> ring("t 10 100", "p 19");
            due(cold, x -> x.solve(19, heat), 1);
            due(cold, x -> x.solve(19, heat) + x.partWork(0), 1);
            due(cold, x -> x.solve(19, heat) + x.partLost(0), 1);
            due(cold, x -> x.solve(19, heat) + x.heatAhead(1), 1 + heat);
        }
        // some 400 degrees above the 100 at the pressure 10, but no heat above the 400 there
        for (int heat : new int[] {301, 399, 400, 0}) {
            Make flat = () -> flat("t 10 100", "p 19");
            due(flat, x -> x.solve(19, heat), 1);
            due(flat, x -> x.solve(19, heat) + x.partWork(0), 1);
            due(flat, x -> x.solve(19, heat) + x.partLost(0), 1);
        }
        // 4500 above the 400 of liquid at 10, but 76 degrees, or 100, are none above the 100 there
        for (int heat : new int[] {4900, 4996}) {
            due(() -> even("t 10 100", "p 19"), x -> x.solve(19, heat), 1);
            due(() -> even("t 10 100", "p 19"), x -> x.solve(19, heat) + x.partWork(0), 1);
            due(() -> even("t 10 100", "p 19"), x -> x.solve(19, heat) + x.partLost(0), 1);
        }
        // the least of degrees above 0: 4600 * 1 / 101 is 45.5
        due(() -> even("t 10 100", "p 19", "h 45"), x -> x.solve(19, 5000), 1);
        due(() -> even("t 10 100", "p 19", "h 45"), x -> x.solve(19, 5000) + x.partWork(0), 1 + 45);
        // the least of both above 0: 5 * 1 / 321 is 0.02; 2 * 400 / 500 is 1.6
        due(() -> ring("t 10 100", "p 19").solve(19, 196), 1);
        due(() -> flat("t 10 100", "p 19", "h 1"), x -> x.solve(19, 402), 1);
        due(() -> flat("t 10 100", "p 19", "h 1"), x -> x.solve(19, 402) + x.partWork(0), 1 + 1);
    }

    private void work() {
        says("Its work, by which the heat is less, is the quality in hundredths of that, cut");
        int[][] qualities = {{0, 0}, {1, 8}, {50, 436}, {80, 698}, {99, 864}, {100, 873}};
        for (int[] quality : qualities) {
            due(() -> solved(quality[0]).partWork(0), quality[1]);
            due(() -> solved(quality[0]).heatAhead(1), 2709 - quality[1]);
            due(() -> solved(quality[0]).partHeat(1), 190 - 2709 + quality[1]);
        }
        says("the rest of it is lost");
        for (int[] quality : qualities) {
            due(() -> solved(quality[0]).partLost(0), 873 - quality[1]);
        }
    }

    private void rounds() {
        says("A state goes through the parts in their order, round by round");
        due(() -> half().pressureAhead(0), 200);
        due(() -> half().pressureAhead(1), 10);
        due(() -> half().pressureAhead(2), 10);
        due(() -> half().pressureAhead(3), 200);
        due(() -> half().heatAhead(3), 209);
        // the other way round there is no heat that a heater at 10 lifts over the turbine
        due(() -> ring("c", "h 10").solve(10, 200), 1);
        due(() -> ring("h 10", "c").solve(10, 200), 2);
        says("it closes in the first round behind which it is as it was ahead of that round, of 60 at most");
        due(() -> ring("c", "h 10").solve(10, 201), 2);
        due(() -> ring("c", "h 10"), x -> x.solve(10, 201) + x.heatAhead(0), 2 + 200);
        // the heat alone is as it was behind the first round, not the pressure
        due(() -> ring("v 10", "c", "p 105", "h 1").solve(106, 200), 2);
        due(() -> ring("v 10", "c", "p 105", "h 1").solve(105, 200), 1);
        // 2 more in each round till 403 makes 3 * 400 / 500, cut, which is 2, again; 60 rounds from 285 on
        Make slow = () -> {
            Cycleworks x = VapourSentences.with(10, 100, 400, 9000, 20, 500, 401, 9001);
            return add(x, "t 10 100", "h 1", "p 20");
        };
        due(slow, x -> x.solve(20, 403), 1);
        due(slow, x -> x.solve(20, 401), 2);
        due(slow, x -> x.solve(20, 287), 59);
        due(slow, x -> x.solve(20, 285), 60);
        refuses(slow, x -> x.solve(20, 283), NONE);
        refuses(slow, x -> x.solve(20, 281), NONE);
        refuses(() -> ring("h 1"), x -> x.solve(10, 190), NONE);
        // 60 rounds of 333 stay below 20000, and a 61st would not
        refuses(() -> ring("h 333"), x -> x.solve(10, 20), NONE);
        refuses(() -> ring("h 333"), x -> x.solve(10, 21), NOT);
    }

    private void refusals() {
        says("It is refused where a pump would not lead up");
        refuses(() -> ring("p 100", "v 10", "c"), x -> x.solve(100, 1000), NOT);
        refuses(() -> ring("p 100", "v 10", "c"), x -> x.solve(101, 1000), NOT);
        due(() -> ring("p 100", "v 99", "c").solve(99, 1000), 2);
        refuses(() -> ring("p 100"), x -> x.solve(10, 190), NOT);
        says("a turbine or a valve not down");
        for (String down : new String[] {"t 100 50", "v 100"}) {
            refuses(() -> ring(down, "p 150", "c"), x -> x.solve(100, 1000), NOT);
            refuses(() -> ring(down, "p 150", "c"), x -> x.solve(99, 1000), NOT);
            due(() -> ring(down, "p 101", "c").solve(101, 2000), 2);
            refuses(() -> ring(down), x -> x.solve(150, 1000), NOT);
        }
        says("a condenser would have to heat");
        refuses(() -> ring("c"), x -> x.solve(10, 189), NOT);
        refuses(() -> ring("c"), x -> x.solve(10, 0), NOT);
        due(() -> ring("c").solve(10, 191), 2);
        due(() -> ring("c").solve(10, 190), 1);
        says("a pressure is beyond the rows");
        refuses(() -> ring("c"), x -> x.solve(9, 2000), NOT);
        refuses(() -> ring("c"), x -> x.solve(201, 2000), NOT);
        due(() -> ring("c").solve(200, 910), 1);
        refuses(() -> ring("p 201", "v 10", "c"), x -> x.solve(10, 190), NOT);
        // nor is such a part passed by, without which the state would close
        refuses(() -> ring("p 201", "c"), x -> x.solve(10, 190), NOT);
        refuses(() -> ring("v 9", "c"), x -> x.solve(10, 190), NOT);
        refuses(() -> ring("t 9 50", "c"), x -> x.solve(10, 190), NOT);
        due(() -> ring("p 200", "v 10", "c").solve(10, 190), 1);
        refuses(() -> ring("v 9", "p 10", "c"), x -> x.solve(10, 190), NOT);
        refuses(() -> ring("t 9 50", "p 10", "c"), x -> x.solve(10, 190), NOT);
        due(() -> ring("t 10 50", "p 11", "c").solve(11, 196), 1);
        // without rows each pressure is beyond them
        refuses(() -> add(new Cycleworks(), "c"), x -> x.solve(10, 190), NOT);
        refuses(() -> add(new Cycleworks(), "h 1"), x -> x.solve(0, 0), NOT);
        says("or a heat would be above 20000");
        due(() -> ring("h 1", "c").solve(10, 19999), 2);
        refuses(() -> ring("h 1", "c"), x -> x.solve(10, 20000), NOT);
        due(() -> ring("h 9999", "h 9811", "c").solve(10, 190), 1);
        refuses(() -> ring("h 9999", "h 9812", "c"), x -> x.solve(10, 190), NOT);
        due(() -> ring("p 100", "v 10", "c").solve(10, 19991), 2);
        refuses(() -> ring("p 100", "v 10", "c"), x -> x.solve(10, 19992), NOT);
    }

    private void adding() {
        of(17);
        says("Adds a part to the ring; what was solved stays without it.");
        Cycleworks x = half();
        due(() -> x.addPart('c', 0, 0), 5);
        due(() -> x.plantWork(), 417);
        due(() -> x.partHeat(3), 2500);
        due(() -> x.partWork(4), NONE);
        due(() -> x.partHeat(4), NONE);
        due(() -> x.solve(200, 2709), 2);
        due(() -> x.partHeat(4), 910 - 2709);
        says("kind: 'p', 'h', 't', 'c' or 'v'");
        for (char kind : "phtcv".toCharArray()) {
            due(() -> new Cycleworks().addPart(kind, 10, 10), 1);
        }
        for (char kind : "PHTCVaix \0\uffff".toCharArray()) {
            refuses(VapourSentences::steam, y -> y.addPart(kind, 10, 10), RANGE);
        }
        says("to: the pressure to which it leads, 1 to 1000, of 'h' the heat, of no meaning for 'c'");
        for (char kind : "ptv".toCharArray()) {
            range(VapourSentences::steam, 1, 1000, (y, n) -> y.addPart(kind, n, 0), RANGE);
        }
        range(VapourSentences::steam, 1, 9999, (y, n) -> y.addPart('h', n, 0), RANGE);
        for (int to : new int[] {LEAST, -1, 0, 1001, 10000, MOST}) {
            due(() -> new Cycleworks().addPart('c', to, 0), 1);
        }
        says("quality: the quality of a 't', of no meaning else");
        range(VapourSentences::steam, 0, 100, (y, n) -> y.addPart('t', 10, n), RANGE);
        for (int quality : new int[] {LEAST, -1, 101, MOST}) {
            for (char kind : "phcv".toCharArray()) {
                due(() -> new Cycleworks().addPart(kind, 10, quality), 1);
            }
        }
        due(() -> {
            Cycleworks y = VapourSentences.steam();
            y.addPart('h', 5, -7);
            y.addPart('c', -7, 1000);
            return y.solve(10, 190) + y.partHeat(0);
        }, 1 + 5);
        says("Returns how many it has.");
        due(() -> new Cycleworks().addPart('h', 1, 0), 1);
        due(() -> ring("c", "c").addPart('h', 1, 0), 3);
        due(() -> ring("c", "c", "c", "c", "c", "c", "c").addPart('h', 1, 0), 8);
        says("Throws IllegalArgumentException if there is no such kind, or a number is out of range that has a "
                + "meaning");
        refuses(PlantSentences::half, y -> y.addPart('x', 10, 10), RANGE);
        refuses(PlantSentences::half, y -> y.addPart('h', 0, 10), RANGE);
        refuses(PlantSentences::half, y -> y.addPart('h', 10000, 10), RANGE);
        refuses(PlantSentences::half, y -> y.addPart('v', 1001, 10), RANGE);
        refuses(PlantSentences::half, y -> y.addPart('t', 10, 101), RANGE);
        refuses(PlantSentences::full, y -> y.addPart('x', 10, 10), RANGE);
        refuses(PlantSentences::full, y -> y.addPart('p', 0, 10), RANGE);
        refuses(PlantSentences::full, y -> y.addPart('t', 10, -1), RANGE);
        says("Throws IllegalStateException if there are 8");
        for (char kind : "phtcv".toCharArray()) {
            refuses(PlantSentences::full, y -> y.addPart(kind, 10, 10), STATE);
        }
        of(18);
        says("Takes all parts away, and what was solved.");
        Cycleworks z = half();
        due(() -> z.clearParts(), 4);
        due(() -> z.plantWork(), STATE);
        due(() -> z.partWork(0), STATE);
        due(() -> z.solve(200, 2709), STATE);
        due(() -> z.addPart('c', 0, 0), 1);
        due(() -> z.plantWork(), STATE);
        says("Returns how many there were.");
        due(() -> new Cycleworks().clearParts(), 0);
        due(() -> ring("c").clearParts(), 1);
        due(() -> full().clearParts(), 8);
        due(() -> z.clearParts() + z.clearParts(), 1);
    }

    private void solving() {
        of(19);
        says("Lets a state go through the ring.", "Returns the round in which it closes, from 1.");
        due(() -> ring("c").solve(10, 190), 1);
        due(() -> ring("c").solve(10, 191), 2);
        says("heat: the heat, 0 to 20000");
        range(() -> ring("c"), 0, 20000, (x, n) -> x.solve(10, n), RANGE);
        due(() -> ring("t 10 100", "p 19").solve(19, 0), 1);
        due(() -> ring("c").solve(10, 20000), 2);
        says("Throws IllegalArgumentException if the heat is out of range");
        refuses(PlantSentences::half, x -> x.solve(10, -1), RANGE);
        refuses(PlantSentences::half, x -> x.solve(10, 20001), RANGE);
        refuses(PlantSentences::half, x -> x.solve(9, 20001), RANGE);
        refuses(Cycleworks::new, x -> x.solve(10, -1), RANGE);
        refuses(() -> ring("h 1"), x -> x.solve(10, 20001), RANGE);
        says("Throws IllegalStateException if there are no parts");
        refuses(VapourSentences::steam, x -> x.solve(10, 190), STATE);
        refuses(VapourSentences::steam, x -> x.solve(9, 190), STATE);
        refuses(Cycleworks::new, x -> x.solve(0, 0), STATE);
        says("Throws UnsupportedOperationException if it is refused, the pressure at first being beyond the rows, too");
        for (int pressure : new int[] {LEAST, 0, 9, 201, 1001, MOST}) {
            refuses(PlantSentences::half, x -> x.solve(pressure, 2709), NOT);
            refuses(() -> ring("h 1"), x -> x.solve(pressure, 2709), NOT);
        }
        refuses(PlantSentences::half, x -> x.solve(10, 2709), NOT);
        refuses(PlantSentences::half, x -> x.solve(200, 0), NOT);
        says("Throws NoSuchElementException if it does not close");
        refuses(() -> ring("h 1"), x -> x.solve(10, 190), NONE);
        // what was solved stays when the ring, with one more part, does not close
        Make open = () -> {
            Cycleworks x = flat("t 10 100", "p 19");
            x.solve(19, 301);
            return add(x, "h 1");
        };
        refuses(open, x -> x.solve(19, 301), NONE);
        due(open, x -> Check.outcome(() -> x.solve(19, 301)) == NONE ? x.heatAhead(1) : -1, 301);
    }

    private interface OnPart {
        int answer(Cycleworks x, int part);
    }

    private void refusedParts(OnPart call) {
        says("Throws IllegalStateException if no state was solved");
        for (int part : new int[] {LEAST, -1, 0, 8, MOST}) {
            refuses(Cycleworks::new, x -> call.answer(x, part), STATE);
            refuses(() -> ring("c"), x -> call.answer(x, part), STATE);
        }
        refuses(() -> {
            Cycleworks x = half();
            x.clearParts();
            return x;
        }, x -> call.answer(x, 0), STATE);
        refuses(() -> {
            Cycleworks x = ring("h 1");
            Check.outcome(() -> x.solve(10, 190));
            Check.outcome(() -> x.solve(9, 190));
            return x;
        }, x -> call.answer(x, 0), STATE);
        says("Throws NoSuchElementException if there was no such part");
        for (int part : new int[] {LEAST, -1, 4, 7, 8, MOST}) {
            refuses(PlantSentences::half, x -> call.answer(x, part), NONE);
        }
        // a part added behind the solving was not there
        refuses(() -> add(half(), "c"), x -> call.answer(x, 4), NONE);
        refuses(() -> {
            Cycleworks x = full();
            x.solve(10, 190);
            return x;
        }, x -> call.answer(x, 8), NONE);
    }

    private void ofEachPart(OnPart call, int... dues) {
        for (int part = 0; part < dues.length; part++) {
            int i = part;
            due(() -> call.answer(half(), i), dues[i]);
        }
        // a solving that is refused or does not close leaves all as it was
        Cycleworks x = half();
        due(() -> x.solve(10, 2709), NOT);
        due(() -> call.answer(x, 0), dues[0]);
        due(() -> call.answer(x, 3), dues[3]);
        says("part: the part, from 0");
        due(() -> call.answer(half(), 0), dues[0]);
        due(() -> call.answer(half(), 3), dues[3]);
        refusedParts(call);
    }

    private void tellingWork() {
        of(20);
        says("Returns the work of a part in the round that closed.");
        due(() -> ring("c", "p 20", "v 10"), x -> x.solve(10, 20000) + x.partWork(1), 2 - 1);
        says("Returns the work, less than 0 if it is put in.");
        ofEachPart((x, part) -> x.partWork(part), 436, 0, -19, 0);
        of(21);
        says("Returns the heat that a part gave to the state in the round that closed.");
        due(() -> ring("c"), x -> x.solve(10, 20000) + x.partHeat(0), 2);
        says("Returns the heat, less than 0 if it was taken.");
        ofEachPart((x, part) -> x.partHeat(part), 0, 190 - 2273, 0, 2500);
    }

    private void telling() {
        of(22);
        says("Returns how much work a part lost in the round that closed.", "Returns how much.");
        ofEachPart((x, part) -> x.partLost(part), 437, 0, 0, 0);
        of(23);
        says("Returns the pressure ahead of a part in the round that closed.", "Returns the pressure.");
        due(() -> ring("v 10", "c", "p 105", "h 1"), x -> x.solve(106, 200) + x.pressureAhead(0), 2 + 105);
        ofEachPart((x, part) -> x.pressureAhead(part), 200, 10, 10, 200);
        of(24);
        says("Returns the heat of the state ahead of a part in the round that closed.", "Returns the heat.");
        due(() -> ring("c"), x -> x.solve(10, 20000) + x.heatAhead(0), 2 + 190);
        ofEachPart((x, part) -> x.heatAhead(part), 2709, 2273, 190, 209);
    }

    private void plantWork() {
        of(25);
        says("Returns the work of all parts in the round that closed.", "Returns the work.");
        due(() -> half().plantWork(), 436 - 19);
        due(() -> solved(0).plantWork(), -19);
        due(() -> ring("c"), x -> x.solve(10, 190) + x.plantWork(), 1);
        due(() -> ring("p 20", "v 10", "p 30", "v 10", "c"), x -> x.solve(10, 190) + x.plantWork(), 1 - 3);
        // of another ring nothing is left, neither the work of its turbine and pump nor the heat of its condenser
        Cycleworks other = half();
        due(() -> other.solve(200, 2709), 1);
        due(() -> other.solve(200, 2709) + other.clearParts(), 1 + 4);
        add(other, "h 7", "p 20", "v 10", "c");
        due(() -> other.solve(10, 190), 1);
        int[][] parts = {{0, 7, 0}, {-1, 0, 0}, {0, 0, 0}, {0, -8, 0}};
        for (int part = 0; part < 4; part++) {
            int i = part;
            due(() -> other.partWork(i), parts[i][0]);
            due(() -> other.partHeat(i), parts[i][1]);
            due(() -> other.partLost(i), parts[i][2]);
        }
        due(() -> other.plantWork(), -1);
        says("Throws IllegalStateException if no state was solved");
        refuses(Cycleworks::new, x -> x.plantWork(), STATE);
        refuses(() -> ring("c"), x -> x.plantWork(), STATE);
        refuses(() -> {
            Cycleworks x = half();
            x.clearParts();
            return add(x, "c");
        }, x -> x.plantWork(), STATE);
    }
}
