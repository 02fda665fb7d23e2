/** The sentences on the gas and its strokes. */
final class CylinderSentences extends Chapter {
    CylinderSentences(Document document, Check check) {
        super(document, check);
    }

    /** A body at 300 with 10, and strokes such as "a 12 0" or "v". */
    private static Cycleworks with(String... strokes) {
        return add(BodySentences.with(300, 10), strokes);
    }

    private static Cycleworks add(Cycleworks x, String... strokes) {
        for (String stroke : strokes) {
            String[] words = stroke.split(" ");
            int volume = words.length > 1 ? Integer.parseInt(words[1]) : 0;
            x.addStroke(stroke.charAt(0), volume, words.length > 2 ? Integer.parseInt(words[2]) : 0);
        }
        return x;
    }

    private static Cycleworks gas(Cycleworks x, int amount, int volume, int temperature) {
        x.setGas(amount, volume, temperature);
        return x;
    }

    private static Cycleworks ran(Cycleworks x, int many) {
        x.runCycles(many);
        return x;
    }

    private static Cycleworks out() {
        return with("a 12");
    }

    private static Cycleworks full() {
        return with("a 11", "a 12", "a 11", "a 12", "a 11", "a 12", "a 11", "a 12");
    }

    /** A body of 600 that wants a heat for a gas of 50, which costs it 450 of its energy and, one step out, 460. */
    private static Cycleworks atTheEdge(String... strokes) {
        return add(gas(BodySentences.with(200, 3, 2000, 1000), 1, 10, 50), strokes);
    }

    @Override
    void run() {
        gases();
        steps();
        exchanges();
        ends();
        cards();
        setting();
        adding();
        running();
        telling();
    }

    private void gases() {
        of(0);
        says("A gas has an amount, 1 to 20");
        range(CylinderSentences::out, 1, 20, (x, n) -> x.setGas(n, 10, 300), RANGE);
        due(() -> gas(out(), 1, 10, 300).gasEnergy(), 900);
        due(() -> gas(out(), 20, 10, 300).gasEnergy(), 18000);
        says("a volume, 1 to 100");
        range(CylinderSentences::out, 1, 100, (x, n) -> x.setGas(1, n, 300), RANGE);
        due(() -> gas(out(), 1, 1, 300).gasVolume(), 1);
        due(() -> gas(out(), 1, 100, 300).gasVolume(), 100);
        says("an energy, at first 3 times the amount times a temperature, 50 to 2000");
        range(CylinderSentences::out, 50, 2000, (x, n) -> x.setGas(1, 10, n), RANGE);
        due(() -> gas(out(), 1, 10, 50).gasEnergy(), 150);
        due(() -> gas(out(), 20, 10, 2000).gasEnergy(), 120000);
        due(() -> gas(out(), 7, 10, 333).gasEnergy(), 6993);
        says("Its temperature is the energy divided by 3 times the amount, cut");
        // a gas of 7 has the temperature of a body when it has 21 times that
        due(() -> ran(gas(add(BodySentences.with(300, 1000), "v"), 7, 10, 50), 1).gasEnergy(), 6300);
        due(() -> ran(gas(add(BodySentences.with(300, 1000), "v"), 7, 10, 50), 1).getEnergy(0), 300000 - 5250);
        says("its pressure is twice the energy, divided by 3 times the volume, cut");
        due(() -> gas(out(), 1, 10, 300).gasPressure(), 60);
        // 28.57, 100 and 1
        due(() -> gas(out(), 1, 7, 100).gasPressure(), 28);
        due(() -> gas(out(), 1, 1, 50).gasPressure(), 100);
        due(() -> gas(out(), 1, 100, 50).gasPressure(), 1);
        due(() -> gas(out(), 20, 1, 2000).gasPressure(), 80000);
        says("A cycle is at most 8 strokes");
        Cycleworks x = new Cycleworks();
        for (int stroke = 1; stroke <= 8; stroke++) {
            int number = stroke;
            due(() -> x.addStroke('a', 10, 0), number);
        }
        refuses(CylinderSentences::full, y -> y.addStroke('a', 10, 0), STATE);
        // all 8 go: 2 steps, then one for each of 7
        due(() -> ran(full(), 1).cardAt(7) >= 0, true);
        due(() -> ran(full(), 1).cardAt(8), NONE);
    }

    private void steps() {
        says("A stroke 'a' or 'i' goes from the volume as it is to a volume that is told, by steps of 1");
        for (char kind : "ai".toCharArray()) {
            for (int goal : new int[] {1, 9, 10, 11, 100}) {
                Make made = () -> {
                    Cycleworks x = BodySentences.with(300, 1000);
                    x.addStroke(kind, goal, 0);
                    x.runCycles(1);
                    return x;
                };
                int many = Math.abs(goal - 10);
                due(made, x -> x.gasVolume(), goal);
                due(made, x -> Check.outcome(() -> x.cardAt(many)), NONE);
                due(made, x -> many == 0 || x.cardAt(many - 1) > 0, true);
            }
        }
        // no step, no exchange: the body of 300 leaves the gas of 600 as it is
        due(() -> ran(gas(with("i 10"), 1, 10, 600), 10).gasEnergy(), 1800);
        due(() -> ran(gas(with("i 10"), 1, 10, 600), 10).getEnergy(0), 3000);
        says("a step out makes the pressure ahead of it work, taken from the energy");
        // 900 at 10: 60; 840 at 11: 50.9; 790 at 12: 43.9
        due(() -> out().runCycles(1), 60 + 50);
        due(() -> ran(out(), 1).gasEnergy(), 790);
        due(() -> ran(out(), 1).getWork(), 110);
        due(() -> ran(out(), 1).gasPressure(), 43);
        due(() -> gas(with("a 2"), 1, 1, 50).runCycles(1), 100);
        due(() -> ran(gas(with("a 100"), 1, 99, 2000), 1).gasEnergy(), 6000 - 40);
        says("a step in puts the pressure ahead of it into the energy, as work");
        // 900 at 10: 60; 960 at 9: 71.1
        due(() -> with("a 8").runCycles(1), -60 - 71);
        due(() -> ran(with("a 8"), 1).gasEnergy(), 900 + 131);
        due(() -> ran(with("a 8"), 1).getWork(), -131);
        due(() -> gas(with("a 1"), 1, 2, 50).runCycles(1), -50);
        due(() -> ran(gas(with("a 99"), 1, 100, 2000), 1).gasEnergy(), 6000 + 40);
    }

    private void exchanges() {
        says("By 'i' the gas then gets from a body what it lacks of the energy by which it has the temperature that "
                + "the body has ahead of the step");
        // 840 behind the work, 900 wanted
        due(() -> ran(with("i 11"), 1).gasEnergy(), 900);
        due(() -> ran(with("i 11"), 1).getEnergy(0), 2940);
        due(() -> with("i 11").runCycles(1), 60);
        // the next step wants 3 times 294 of 900 - 54, and gets 36
        due(() -> ran(with("i 12"), 1).gasEnergy(), 882);
        due(() -> ran(with("i 12"), 1).getEnergy(0), 2940 - 36);
        due(() -> with("i 12").runCycles(1), 60 + 54);
        says("or gives it what is more");
        due(() -> ran(with("i 9"), 1).gasEnergy(), 900);
        due(() -> ran(with("i 9"), 1).getEnergy(0), 3060);
        due(() -> with("i 9").runCycles(1), -60);
        due(() -> ran(gas(with("i 11"), 1, 10, 600), 1).getEnergy(0), 3000 + 1680 - 900);
        says("A stroke 'v' is such an exchange alone, one step without a change of the volume");
        Make hot = () -> ran(gas(with("v"), 1, 10, 600), 1);
        due(hot, x -> x.gasEnergy(), 900);
        due(hot, x -> x.getEnergy(0), 3900);
        due(hot, x -> x.gasVolume(), 10);
        due(hot, x -> x.getWork(), 0);
        due(hot, x -> x.cardAt(0), 120);
        due(hot, x -> Check.outcome(() -> x.cardAt(1)), NONE);
        due(() -> ran(gas(with("v"), 1, 10, 100), 1).gasEnergy(), 900);
        due(() -> ran(gas(with("v"), 1, 10, 100), 1).getEnergy(0), 2400);
        // the volume that is told has no meaning
        due(() -> ran(with("v 55"), 1).gasVolume(), 10);
        // by the temperature ahead of the step, cut: 3900 are 390, so 1170 - 900 go back
        due(() -> ran(gas(with("v"), 1, 10, 600), 2).gasEnergy(), 1170);
        due(() -> ran(gas(with("v"), 1, 10, 600), 2).getEnergy(0), 3630);
        due(() -> ran(gas(add(BodySentences.with(300, 9), "v"), 1, 10, 303), 2).gasEnergy(), 903);
        due(() -> ran(gas(add(BodySentences.with(300, 10), "v"), 1, 10, 303), 2).gasEnergy(), 900);
    }

    private void ends() {
        says("A run ends ahead of a step by which a body would fall below the temperature 50");
        Make atFifty = () -> atTheEdge("v");
        due(atFifty, x -> x.runCycles(1), 0);
        due(() -> ran(atTheEdge("v"), 1).wasEnded(), false);
        due(() -> ran(atTheEdge("v"), 1).getEnergy(0), 150);
        due(() -> ran(atTheEdge("v"), 1).gasEnergy(), 600);
        Make below = () -> ran(atTheEdge("a 11", "v", "v 0 1"), 1);
        due(below, x -> x.wasEnded(), true);
        due(below, x -> x.getEnergy(0), 600);
        due(below, x -> x.gasEnergy(), 140);
        due(below, x -> x.getEnergy(1), 2000000);
        due(below, x -> x.cardAt(0), 10);
        due(below, x -> Check.outcome(() -> x.cardAt(1)), NONE);
        // of an 'i' neither the work nor the volume: the step from 10 to 11 would cost the body 460
        Make step = () -> ran(atTheEdge("i 11"), 1);
        due(step, x -> x.wasEnded(), true);
        due(step, x -> x.gasVolume(), 10);
        due(step, x -> x.gasEnergy(), 150);
        due(step, x -> x.getEnergy(0), 600);
        due(step, x -> x.getWork(), 0);
        due(step, x -> Check.outcome(() -> x.cardAt(0)), NONE);
        // a step in gives it 10, so it stays at 50
        due(() -> ran(atTheEdge("i 9"), 1).wasEnded(), false);
        due(() -> ran(atTheEdge("i 9"), 1).getEnergy(0), 160);
        // a gas of 149 lacks 1, which no body at 50 has; one at 51 of the capacity 4 has the 4 that are lacking then
        for (int capacity : new int[] {1, 1000}) {
            Make least = () -> add(gas(BodySentences.with(50, capacity), 1, 99, 50), "a 100", "v");
            due(least, x -> x.runCycles(1), 1);
            due(() -> ran(least.make(), 1).wasEnded(), true);
            due(() -> ran(least.make(), 1).getEnergy(0), 50 * capacity);
            due(() -> ran(least.make(), 1).gasEnergy(), 149);
        }
        for (int capacity : new int[] {3, 4, 5}) {
            Make near = () -> ran(add(gas(BodySentences.with(51, capacity), 1, 99, 50), "a 100", "v"), 1);
            due(near, x -> x.wasEnded(), capacity == 3);
            due(near, x -> x.gasEnergy(), capacity == 3 ? 149 : 153);
            due(near, x -> x.getEnergy(0), 51 * capacity - (capacity == 3 ? 0 : 4));
        }
        Make tight = () -> ran(add(gas(BodySentences.with(50, 10), 1, 99, 50), "i 100"), 1);
        due(tight, x -> x.wasEnded(), true);
        due(tight, x -> x.gasVolume(), 99);
        due(tight, x -> x.gasEnergy(), 150);
        // what is wanted is more than the body and the gas have together: 3000 and 2000 of 120000
        Make great = () -> ran(add(gas(BodySentences.with(2000, 1), 20, 10, 50), "v"), 1);
        due(great, x -> x.wasEnded(), true);
        due(great, x -> x.getEnergy(0), 2000);
        due(great, x -> x.gasEnergy(), 3000);
        due(great, x -> Check.outcome(() -> x.cardAt(0)), NONE);
        // the steps ahead of it stay: of 153 at 51, 10 are made and got, but not 9 more and the 6 lacking then
        Make second = () -> ran(add(gas(BodySentences.with(51, 11), 1, 10, 51), "i 20"), 1);
        due(second, x -> x.wasEnded(), true);
        due(second, x -> x.gasVolume(), 11);
        due(second, x -> x.gasEnergy(), 153);
        due(second, x -> x.getEnergy(0), 551);
        due(second, x -> x.getWork(), 10);
        due(second, x -> x.cardAt(0), 10);
        due(second, x -> Check.outcome(() -> x.cardAt(1)), NONE);
        due(second, x -> x.runCycles(10) + x.gasEnergy(), 153);
        // neither another stroke nor another cycle comes behind it, till the next run
        due(() -> atTheEdge("a 11", "v", "a 12").runCycles(10), 10);
        due(() -> ran(atTheEdge("a 11", "v", "a 12"), 10).gasVolume(), 11);
        Cycleworks again = atTheEdge("a 11", "v", "a 12");
        due(() -> again.runCycles(1), 10);
        due(() -> again.runCycles(1), 0);
        due(() -> again.wasEnded(), true);
        says("or the energy of the gas, behind the whole of it, below 1");
        // each cycle leaves less: 14 and 37, 6 and 10, 3 and 4, 2 and 2, then 1, of which no step takes anything
        int[][] cycles = {{1, 37}, {2, 10}, {3, 4}, {4, 2}, {5, 1}, {10, 1}};
        for (int[] cycle : cycles) {
            due(() -> ran(gas(with("a 100", "a 1"), 1, 1, 50), cycle[0]).gasEnergy(), cycle[1]);
            due(() -> ran(gas(with("a 100", "a 1"), 1, 1, 50), cycle[0]).wasEnded(), false);
            due(() -> gas(with("a 100", "a 1"), 1, 1, 50).runCycles(cycle[0]), 150 - cycle[1]);
        }
        says("Its work is in the sum of all work, too");
        Cycleworks x = out();
        x.addBody(250, 10);
        due(() -> x.runEngine(0, 1, 100, 5), 380 - 334);
        due(() -> x.runCycles(1), 110);
        due(() -> x.getWork(), 115);
        due(() -> ran(with("a 8"), 1).getWork(), -131);
        due(() -> ran(atTheEdge("a 11", "v"), 3).getWork(), 10);
    }

    private void cards() {
        says("The card has the pressures ahead of the first 300 steps of the last run");
        due(() -> ran(out(), 1).cardAt(0), 60);
        due(() -> ran(out(), 1).cardAt(1), 50);
        due(() -> ran(out(), 1).cardAt(2), NONE);
        // 99 steps out, 99 in, 99 out, and 3 or 4 steps more; the last ones go in from 100
        for (int more = 2; more <= 4; more++) {
            int last = 100 - more;
            Make made = () -> ran(gas(with("a 100", "a 1", "a 100", "a " + last), 20, 1, 2000), 1);
            due(made, x -> x.cardAt(297) > 0 && x.cardAt(298) > 0, true);
            due(made, x -> Check.outcome(() -> x.cardAt(299)) == NONE, more == 2);
            due(made, x -> Check.outcome(() -> x.cardAt(300)), NONE);
        }
        Cycleworks x = gas(with("a 100", "a 1"), 20, 1, 2000);
        due(() -> x.runCycles(10) > 0, true);
        due(() -> x.cardAt(0), 80000);
        due(() -> x.cardAt(299) > 0, true);
        due(() -> x.cardAt(300), NONE);
        // a run of no steps has an empty card
        x.clearStrokes();
        x.addStroke('a', 1, 0);
        due(() -> x.runCycles(1), 0);
        due(() -> x.cardAt(0), NONE);
    }

    private void setting() {
        of(26);
        says("Sets the gas, 1 of the volume 10 and the temperature 300 at first.");
        due(() -> new Cycleworks().gasEnergy(), 900);
        due(() -> new Cycleworks().gasVolume(), 10);
        due(() -> new Cycleworks().gasPressure(), 60);
        due(() -> ran(with("v"), 1).gasEnergy(), 900);
        says("Returns the energy before.");
        due(() -> new Cycleworks().setGas(20, 100, 2000), 900);
        due(() -> gas(out(), 20, 100, 2000).setGas(1, 1, 50), 120000);
        due(() -> gas(out(), 1, 1, 50).setGas(1, 1, 50), 150);
        due(() -> ran(out(), 1).setGas(1, 1, 50), 790);
        says("Throws IllegalArgumentException if a number is out of range");
        for (int amount : new int[] {0, 21}) {
            refuses(CylinderSentences::out, x -> x.setGas(amount, 10, 300), RANGE);
            refuses(CylinderSentences::out, x -> x.setGas(amount, 0, 2001), RANGE);
        }
        for (int volume : new int[] {0, 101}) {
            refuses(CylinderSentences::out, x -> x.setGas(1, volume, 300), RANGE);
        }
        for (int temperature : new int[] {49, 2001}) {
            refuses(CylinderSentences::out, x -> x.setGas(1, 10, temperature), RANGE);
        }
    }

    private void adding() {
        of(27);
        says("Adds a stroke.", "Returns how many there are.");
        due(() -> new Cycleworks().addStroke('a', 10, 0), 1);
        due(() -> with("a 1", "i 2", "v").addStroke('i', 10, 0), 4);
        says("kind: 'a', 'i' or 'v'");
        for (char kind : "aiv".toCharArray()) {
            due(() -> with().addStroke(kind, 10, 0), 1);
        }
        for (char kind : "AIVptc \0\uffff".toCharArray()) {
            refuses(CylinderSentences::out, x -> x.addStroke(kind, 10, 0), RANGE);
        }
        says("volume: the volume, of no meaning for 'v'");
        range(CylinderSentences::out, 1, 100, (x, n) -> x.addStroke('a', n, 0), RANGE);
        range(CylinderSentences::out, 1, 100, (x, n) -> x.addStroke('i', n, 0), RANGE);
        for (int volume : new int[] {LEAST, -1, 0, 101, MOST}) {
            due(() -> with().addStroke('v', volume, 0), 1);
            due(() -> {
                Cycleworks x = with();
                x.addStroke('v', volume, 0);
                return ran(x, 2).gasVolume();
            }, 10);
        }
        says("body: the body, of no meaning for 'a'");
        for (int body : new int[] {LEAST, -1, 1, 7, 8, MOST}) {
            refuses(CylinderSentences::out, x -> x.addStroke('i', 10, body), INDEX);
            refuses(CylinderSentences::out, x -> x.addStroke('v', 10, body), INDEX);
            due(() -> with().addStroke('a', 10, body), 1);
        }
        due(() -> {
            Cycleworks x = with();
            x.addStroke('a', 11, MOST);
            return x.runCycles(1);
        }, 60);
        says("Throws IllegalArgumentException if there is no such kind, or the volume is out of range and has a "
                + "meaning");
        refuses(CylinderSentences::out, x -> x.addStroke('b', 10, 9), RANGE);
        refuses(CylinderSentences::out, x -> x.addStroke('i', 0, 9), RANGE);
        refuses(CylinderSentences::out, x -> x.addStroke('i', 101, -1), RANGE);
        refuses(CylinderSentences::full, x -> x.addStroke('b', 10, 0), RANGE);
        refuses(CylinderSentences::full, x -> x.addStroke('a', 0, 0), RANGE);
        refuses(CylinderSentences::full, x -> x.addStroke('i', 101, 9), RANGE);
        says("Throws IndexOutOfBoundsException if there is no such body, for one that has a meaning");
        refuses(Cycleworks::new, x -> x.addStroke('i', 10, 0), INDEX);
        refuses(Cycleworks::new, x -> x.addStroke('v', 10, 0), INDEX);
        refuses(CylinderSentences::full, x -> x.addStroke('i', 10, 1), INDEX);
        refuses(CylinderSentences::full, x -> x.addStroke('v', 0, -1), INDEX);
        says("Throws IllegalStateException if there are 8");
        refuses(CylinderSentences::full, x -> x.addStroke('a', 1, -9), STATE);
        refuses(CylinderSentences::full, x -> x.addStroke('i', 100, 0), STATE);
        refuses(CylinderSentences::full, x -> x.addStroke('v', -9, 0), STATE);
        of(28);
        says("Takes all strokes away.");
        Cycleworks x = out();
        due(() -> x.clearStrokes(), 1);
        due(() -> x.runCycles(1), STATE);
        due(() -> x.addStroke('a', 11, 0), 1);
        due(() -> x.runCycles(1), 60);
        says("Returns how many there were.");
        due(() -> new Cycleworks().clearStrokes(), 0);
        due(() -> full().clearStrokes(), 8);
        due(() -> x.clearStrokes() + x.clearStrokes(), 1);
    }

    private void running() {
        of(29);
        says("Runs the cycle.", "Returns the work made in the run.");
        due(() -> out().runCycles(1), 110);
        due(() -> out().runCycles(10), 110);
        // 60 out, then 840 at 11: 50 in, 59 out of 890
        due(() -> with("a 11", "a 10").runCycles(1), 60 - 50);
        due(() -> with("a 11", "a 10").runCycles(2), 10 + 59 - 50);
        Cycleworks x = with("a 11", "a 10");
        due(() -> x.runCycles(1), 10);
        due(() -> x.runCycles(1), 9);
        due(() -> x.getWork(), 19);
        says("many: how often, 1 to 10");
        range(CylinderSentences::out, 1, 10, (y, n) -> y.runCycles(n), RANGE);
        due(() -> ran(add(BodySentences.with(300, 1000), "v"), 10).cardAt(9), 60);
        due(() -> ran(add(BodySentences.with(300, 1000), "v"), 10).cardAt(10), NONE);
        says("Throws IllegalArgumentException if a number is out of range");
        refuses(CylinderSentences::out, y -> y.runCycles(0), RANGE);
        refuses(CylinderSentences::out, y -> y.runCycles(11), RANGE);
        refuses(Cycleworks::new, y -> y.runCycles(0), RANGE);
        refuses(Cycleworks::new, y -> y.runCycles(11), RANGE);
        says("Throws IllegalStateException if there are no strokes");
        refuses(Cycleworks::new, y -> y.runCycles(1), STATE);
        refuses(Cycleworks::new, y -> y.runCycles(10), STATE);
        refuses(() -> {
            Cycleworks y = ran(out(), 1);
            y.clearStrokes();
            return y;
        }, y -> y.runCycles(1), STATE);
    }

    private void telling() {
        of(30);
        says("Returns whether the last run ended ahead of a step.", "Returns whether it did.");
        due(() -> ran(out(), 1).wasEnded(), false);
        due(() -> ran(atTheEdge("a 11", "v"), 1).wasEnded(), true);
        Cycleworks x = ran(atTheEdge("a 11", "v"), 1);
        x.clearStrokes();
        due(() -> x.wasEnded(), true);
        due(() -> x.runCycles(1), STATE);
        due(() -> x.wasEnded(), true);
        x.addStroke('a', 12, 0);
        due(() -> x.wasEnded(), true);
        due(() -> x.runCycles(1) > 0, true);
        due(() -> x.wasEnded(), false);
        says("Throws IllegalStateException if there was no run");
        refuses(Cycleworks::new, y -> y.wasEnded(), STATE);
        refuses(CylinderSentences::out, y -> y.wasEnded(), STATE);
        refuses(() -> {
            Cycleworks y = out();
            Check.outcome(() -> y.runCycles(11));
            return y;
        }, y -> y.wasEnded(), STATE);
        of(31);
        says("Returns the energy of the gas.", "Returns the energy.");
        due(() -> ran(out(), 1).gasEnergy(), 790);
        due(() -> gas(out(), 20, 1, 2000).gasEnergy(), 120000);
        of(32);
        says("Returns the pressure of the gas.", "Returns the pressure.");
        due(() -> ran(out(), 1).gasPressure(), 43);
        due(() -> gas(out(), 20, 1, 2000).gasPressure(), 80000);
        of(33);
        says("Returns the volume of the gas.", "Returns the volume.");
        due(() -> ran(out(), 1).gasVolume(), 12);
        due(() -> gas(out(), 20, 1, 2000).gasVolume(), 1);
        of(34);
        says("Returns a pressure of the card.", "Returns the pressure.");
        due(() -> ran(out(), 1).cardAt(1), 50);
        says("index: the step, from 0");
        due(() -> ran(out(), 1).cardAt(0), 60);
        says("Throws NoSuchElementException if there is none");
        for (int index : new int[] {LEAST, -1, 2, 299, 300, MOST}) {
            refuses(() -> ran(out(), 1), y -> y.cardAt(index), NONE);
            refuses(Cycleworks::new, y -> y.cardAt(index), NONE);
        }
        refuses(CylinderSentences::out, y -> y.cardAt(0), NONE);
    }
}
