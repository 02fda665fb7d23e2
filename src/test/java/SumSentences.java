import java.lang.reflect.Array;
import java.lang.reflect.Field;
import java.math.BigInteger;

/** The sentences on what is summed up over all, on exceptions, and on an object as a whole. */
final class SumSentences extends Chapter {
    SumSentences(Document document, Check check) {
        super(document, check);
    }

    private static Cycleworks two() {
        return BodySentences.with(600, 100, 300, 100);
    }

    /** One of the kinds of all calls that change something, so that nothing is as it was at first. */
    private static Cycleworks used() {
        Cycleworks x = two();
        x.conduct(0, 1, 1000);
        x.runEngine(0, 1, 1000, 400);
        x.addRow(10, 320, 190, 2580);
        x.addRow(200, 490, 910, 2790);
        x.addPart('c', 0, 0);
        x.solve(10, 2000);
        x.addStroke('i', 12, 0);
        x.runCycles(2);
        x.addStream(50, 90, 2);
        x.setLoad(40);
        x.runSeconds(3);
        return x;
    }

    private static Cycleworks usedUp() {
        Cycleworks x = used();
        for (int more = 0; more < 8; more++) {
            Check.outcome(() -> x.addBody(300, 10));
            int row = more;
            Check.outcome(() -> x.addRow(201 + row, 491 + row, 911 + row, 2790));
            Check.outcome(() -> x.addPart('c', 0, 0));
            Check.outcome(() -> x.addStroke('a', 10, 0));
            Check.outcome(() -> x.addStream(50, 90, 2));
            Check.outcome(() -> x.addStream(50, 90, 2));
        }
        return x;
    }

    /** By the word, with numbers that never wrap till the end. */
    private static long sum(long... numbers) {
        BigInteger sum = BigInteger.valueOf(7);
        for (long number : numbers) {
            sum = sum.multiply(BigInteger.valueOf(31)).add(BigInteger.valueOf(number));
        }
        return sum.longValue();
    }

    @Override
    void run() {
        object();
        exceptions();
        workAndMade();
        checksum();
        share();
        mean();
        sound();
    }

    private void object() {
        of(0);
        says("An object is used for at most 512 calls after it has been made");
        Cycleworks x = BodySentences.with(2000, 1000, 50, 1000);
        for (int call = 3; call < 511; call++) {
            x.conduct(0, 1, 1);
        }
        due(() -> x.getEnergy(0), 2000000 - 508);
        due(() -> x.checksum(), sum(2000000 - 508, 50508, 0, 508 * 19, 900, 1000));
        Cycleworks y = new Cycleworks();
        for (int call = 1; call < 512; call++) {
            y.runSeconds(500);
        }
        due(() -> y.runSeconds(500), 1000);
        says("what later calls answer is free");
        due(() -> y.runSeconds(500) >= 0, true);
        of(1);
        says("Creates a workshop without bodies, rows and parts.");
        due(() -> new Cycleworks().getEnergy(0), INDEX);
        due(() -> new Cycleworks().meanTemperature(), DIVISION);
        for (int pressure : new int[] {1, 10, 1000}) {
            due(() -> new Cycleworks().getLiquid(pressure), NONE);
        }
        due(() -> new Cycleworks().clearParts(), 0);
        due(() -> new Cycleworks().solve(1, 0), STATE);
        due(() -> new Cycleworks().plantWork(), STATE);
        due(() -> new Cycleworks().clearStrokes(), 0);
        due(() -> new Cycleworks().clearStreams(), 0);
        due(() -> new Cycleworks().getWork(), 0);
        due(() -> new Cycleworks().getMade(), 0);
        due(() -> new Cycleworks().countTurns(), 0);
        due(() -> new Cycleworks().isTripped(), false);
        // one object knows nothing of another one
        due(() -> {
            Cycleworks other = new Cycleworks();
            Check.outcome(() -> used().getWork());
            return other.checksum();
        }, sum(0, 0, 900, 1000));
    }

    private void exceptions() {
        of(0);
        says("A method that throws an exception changes nothing");
        for (Make make : new Make[] {Cycleworks::new, SumSentences::used, SumSentences::usedUp}) {
            refuses(make, x -> x.addBody(49, 1), RANGE);
            refuses(make, x -> x.conduct(0, 9, 1), INDEX);
            refuses(make, x -> x.runEngine(9, 0, 1, 0), INDEX);
            refuses(make, x -> x.runPump(-1, 0, 1, 0), INDEX);
            refuses(make, x -> x.addRow(1, 50, 0, 0), NOT);
            refuses(make, x -> x.getPhase(0, 0), NONE);
            refuses(make, x -> x.addPart('x', 1, 1), RANGE);
            refuses(make, x -> x.solve(1, 20001), RANGE);
            refuses(make, x -> x.setGas(20, 100, 2001), RANGE);
            refuses(make, x -> x.addStroke('v', 1, 9), INDEX);
            refuses(make, x -> x.runCycles(0), RANGE);
            refuses(make, x -> x.addStream(50, 50, 1), RANGE);
            refuses(make, x -> x.pinch(101), RANGE);
            refuses(make, x -> x.setGovernor(0, 0, 0, 5001), RANGE);
            refuses(make, x -> x.setLoad(101), RANGE);
            refuses(make, x -> x.runSeconds(0), RANGE);
            refuses(make, x -> x.bestWork(1, 60, 59), NONE);
        }
        refuses(SumSentences::used, x -> x.conduct(1, 0, 100), NOT);
        refuses(SumSentences::used, x -> x.runEngine(0, 1, 100, 100), NOT);
        refuses(SumSentences::used, x -> x.runPump(1, 0, 100, 0), NOT);
        refuses(SumSentences::used, x -> x.solve(10, 0), NOT);
        refuses(SumSentences::used, x -> x.solve(9, 0), NOT);
        refuses(SumSentences::usedUp, x -> x.addBody(300, 10), STATE);
        refuses(SumSentences::usedUp, x -> x.addRow(1000, 999, 9998, 9999), STATE);
        refuses(SumSentences::usedUp, x -> x.addPart('c', 0, 0), STATE);
        refuses(SumSentences::usedUp, x -> x.addStroke('a', 10, 0), STATE);
        refuses(SumSentences::usedUp, x -> x.addStream(50, 51, 1), STATE);
        says("If several exceptions apply, the one that is documented first is thrown");
        Make full = SumSentences::usedUp;
        refuses(full, x -> x.addBody(49, 1), RANGE);
        refuses(full, x -> x.conduct(8, 8, 0), INDEX);
        refuses(full, x -> x.conduct(1, 1, 100000), RANGE);
        refuses(full, x -> x.conduct(1, 0, 100001), RANGE);
        refuses(full, x -> x.runEngine(0, 8, 1, 2), INDEX);
        refuses(full, x -> x.runEngine(1, 0, 1, 2), RANGE);
        refuses(full, x -> x.runPump(0, 8, 100001, 100001), INDEX);
        refuses(full, x -> x.runPump(1, 0, 100000, 100001), RANGE);
        refuses(full, x -> x.addRow(0, 50, 0, 0), RANGE);
        refuses(full, x -> x.addRow(10, 50, 1, 0), NOT);
        refuses(full, x -> x.getPhase(9, -1), RANGE);
        refuses(full, x -> x.getDryness(9, -1), RANGE);
        refuses(full, x -> x.stateTemperature(9, -1), RANGE);
        refuses(full, x -> x.addPart('x', 1, 1), RANGE);
        refuses(full, x -> x.solve(9, -1), RANGE);
        refuses(Cycleworks::new, x -> x.solve(9, 0), STATE);
        refuses(Cycleworks::new, x -> x.solve(9, -1), RANGE);
        refuses(Cycleworks::new, x -> x.partWork(-1), STATE);
        refuses(Cycleworks::new, x -> x.partHeat(8), STATE);
        refuses(Cycleworks::new, x -> x.partLost(8), STATE);
        refuses(Cycleworks::new, x -> x.pressureAhead(8), STATE);
        refuses(Cycleworks::new, x -> x.heatAhead(8), STATE);
        refuses(full, x -> x.addStroke('x', 10, 8), RANGE);
        refuses(full, x -> x.addStroke('i', 0, 8), RANGE);
        refuses(full, x -> x.addStroke('i', 10, 8), INDEX);
        refuses(Cycleworks::new, x -> x.runCycles(11), RANGE);
        refuses(full, x -> x.addStream(50, 50, 1), RANGE);
        refuses(Cycleworks::new, x -> x.pinch(-1), RANGE);
        refuses(full, x -> x.bestWork(1, 59, 60), RANGE);
    }

    private void workAndMade() {
        of(8);
        says("Returns the sum of all work made.", "Returns the work.");
        Cycleworks x = two();
        due(() -> x.getWork(), 0);
        due(() -> x.runEngine(0, 1, 1000, 400), 333);
        due(() -> x.getWork(), 400);
        due(() -> x.conduct(0, 1, 100) > 0, true);
        due(() -> x.getWork(), 400);
        due(() -> x.runPump(0, 1, 100, 500) > 0, true);
        due(() -> x.getWork(), -100);
        due(() -> x.addStroke('a', 11, 0), 1);
        due(() -> x.runCycles(1), 60);
        due(() -> x.getWork(), -40);
        due(() -> x.setGas(20, 1, 2000), 840);
        due(() -> x.getWork(), -40);
        of(9);
        says("Returns how much disorder was made by heat, engines and pumps.", "Returns the sum.");
        Cycleworks y = two();
        due(() -> y.getMade(), 0);
        due(() -> y.conduct(0, 1, 1000), 3333 - 1667);
        due(() -> y.getMade(), 1666);
        // at 590 and 310: 2258.06 and 1694.92; then at 580 and 317: 3154.57 and 172.41
        due(() -> y.runEngine(0, 1, 1000, 300), 2258 - 1695);
        due(() -> y.getMade(), 1666 + 563);
        due(() -> y.runPump(0, 1, 100, 900), 3154 - 173);
        due(() -> y.getMade(), 1666 + 563 + 2981);
        due(() -> y.runEngine(0, 1, 100, 100), NOT);
        due(() -> y.claim(1000, 600, 300, 1), '-');
        due(() -> y.getMade(), 1666 + 563 + 2981);
        // no stroke counts
        due(() -> {
            Cycleworks z = BodySentences.with(2000, 1000);
            z.addStroke('v', 0, 0);
            z.runCycles(10);
            return z.getMade();
        }, 0);
    }

    private void checksum() {
        of(49);
        says("Returns a sum over all.");
        due(() -> new Cycleworks().checksum(), sum(0, 0, 900, 1000));
        says("Returns 7 at first, then for each body 31 times itself plus its energy; then 31 times itself plus the "
                + "work, then 31 times itself plus the disorder that was made, then 31 times itself plus the energy "
                + "of the gas, then 31 times itself plus the speed.");
        due(() -> two().checksum(), sum(60000, 30000, 0, 0, 900, 1000));
        due(() -> BodySentences.with(50, 1).checksum(), sum(50, 0, 0, 900, 1000));
        Cycleworks x = two();
        due(() -> x.runEngine(0, 1, 1000, 400), 333);
        due(() -> x.checksum(), sum(59000, 30600, 400, 333, 900, 1000));
        due(() -> x.runPump(0, 1, 1, 1000), 3271 - 2);
        due(() -> x.checksum(), sum(58999, 31601, -600, 333 + 3269, 900, 1000));
        due(() -> x.setGas(20, 10, 2000), 900);
        due(() -> x.setLoad(49) + x.runSeconds(1), 50 + 1004);
        due(() -> x.checksum(), sum(58999, 31601, -600, 3602, 120000, 1004));
        // 8 great bodies wrap a long
        due(() -> BodySentences.with(2000, 1000, 2000, 999, 2000, 998, 2000, 997, 2000, 996, 2000, 995, 2000, 994,
                1999, 1000).checksum(),
                sum(2000000, 1998000, 1996000, 1994000, 1992000, 1990000, 1988000, 1999000, 0, 0, 900, 1000));
    }

    private void share() {
        of(50);
        says("Returns the share of heats, engines and pumps that made disorder.");
        due(SumSentences::two, x -> x.conduct(0, 1, 1) > 0 ? x.makingShare() : -1, 1f);
        due(SumSentences::two, x -> x.runEngine(0, 1, 1200, 600) == 0 ? x.makingShare() : -1, 0f);
        due(SumSentences::two, x -> x.runEngine(0, 1, 1200, 599) > 0 ? x.makingShare() : -1, 1f);
        due(SumSentences::two, x -> x.runPump(0, 1, 1, 1) > 0 ? x.makingShare() : -1, 1f);
        due(() -> BodySentences.with(351, 10, 350, 10), x -> x.conduct(0, 1, 1) == 0 ? x.makingShare() : -1, 0f);
        says("Returns their number divided by that of all that were done, both converted to float.");
        Cycleworks x = two();
        due(() -> x.runEngine(0, 1, 1200, 600), 0);
        due(() -> x.makingShare(), 0f);
        due(() -> x.conduct(0, 1, 588), 1921 - 1000);
        due(() -> x.makingShare(), 1f / 2f);
        due(() -> x.runPump(0, 1, 582, 0) > 0, true);
        due(() -> x.makingShare(), 2f / 3f);
        due(() -> x.runPump(1, 0, 100, 0), NOT);
        due(() -> x.makingShare(), 2f / 3f);
        Cycleworks y = BodySentences.with(2000, 1000, 1000, 1000);
        due(() -> y.runEngine(0, 1, 2, 1), 0);
        due(() -> y.runPump(1, 0, 1, 2), 1 - 1);
        due(() -> y.conduct(0, 1, 2000), 2000 - 1000);
        due(() -> y.makingShare(), 1f / 3f);
        says("Throws ArithmeticException if there were none");
        refuses(Cycleworks::new, z -> z.makingShare(), DIVISION);
        refuses(SumSentences::two, z -> z.makingShare(), DIVISION);
        refuses(() -> {
            Cycleworks z = two();
            Check.outcome(() -> z.conduct(1, 0, 1));
            z.addStroke('v', 0, 0);
            z.runCycles(1);
            z.claim(1000, 600, 300, 1);
            return z;
        }, z -> z.makingShare(), DIVISION);
    }

    private void mean() {
        of(51);
        says("Returns the mean temperature of bodies.");
        due(() -> two().meanTemperature(), 450.0);
        due(() -> BodySentences.with(50, 1000).meanTemperature(), 50.0);
        says("Returns the sum divided by how many there are, both converted to double.");
        due(() -> BodySentences.with(300, 10, 401, 10).meanTemperature(), 350.5);
        due(() -> BodySentences.with(300, 1, 300, 1, 301, 1).meanTemperature(), 901.0 / 3.0);
        due(() -> BodySentences.with(51, 1, 50, 1, 50, 1, 50, 1, 50, 1, 50, 1, 50, 1).meanTemperature(), 351.0 / 7.0);
        due(() -> BodySentences.with(2000, 1, 2000, 1, 2000, 1, 2000, 1, 2000, 1, 2000, 1, 2000, 1, 1999, 1)
                .meanTemperature(), 1999.875);
        // however often it is asked, also behind an exchange by strokes: 300 and 401, then 294 and 401
        Cycleworks often = BodySentences.with(300, 10, 401, 10);
        due(() -> often.meanTemperature(), 350.5);
        due(() -> often.meanTemperature(), 350.5);
        due(() -> often.addStroke('i', 11, 0) + often.runCycles(1), 1 + 60);
        due(() -> often.meanTemperature(), 347.5);
        due(() -> often.meanTemperature(), 347.5);
        // of the temperatures, cut: 599 and 300
        due(SumSentences::two, x -> x.conduct(0, 1, 1) > 0 ? x.meanTemperature() : -1, 449.5);
        says("Throws ArithmeticException if there are none");
        refuses(Cycleworks::new, x -> x.meanTemperature(), DIVISION);
    }

    private static Field field(Object holder, String name) throws ReflectiveOperationException {
        Field field = holder.getClass().getDeclaredField(name);
        field.setAccessible(true);
        return field;
    }

    private static Object part(Object holder, String name) throws ReflectiveOperationException {
        return field(holder, name).get(holder);
    }

    /** Whether an object is sound to which, from inside, something more was added. */
    private static boolean soundWith(long more, String holder, String name, int index) {
        try {
            Cycleworks x = used();
            Object inside = x;
            for (String step : holder.split("\\.")) {
                inside = part(inside, step);
            }
            if (index >= 0) {
                Object entry = Array.get(part(inside, name), index);
                if (entry instanceof Integer) {
                    Array.setInt(part(inside, name), index, (int) ((int) entry + more));
                    return x.isSound();
                }
                inside = entry;
                name = "first";
            }
            Field field = field(inside, name);
            if (field.getType() == int.class) {
                field.setInt(inside, (int) (field.getInt(inside) + more));
            } else {
                field.setLong(inside, field.getLong(inside) + more);
            }
            return x.isSound();
        } catch (ReflectiveOperationException hidden) {
            throw new IllegalStateException(hidden);
        }
    }

    /** Whether an object is sound whose body lost so much, of which the sum of what was put in knows. */
    private static boolean soundWithout(int capacity, int lost) {
        try {
            Cycleworks x = BodySentences.with(50, capacity, 60, capacity);
            Object bodies = part(x, "bodies");
            Object energy = Array.get(part(bodies, "energies"), 0);
            field(energy, "first").setLong(energy, 50L * capacity - lost);
            Object sums = part(x, "sums");
            Field putIn = field(sums, "putIn");
            putIn.setLong(sums, putIn.getLong(sums) - lost);
            return x.isSound();
        } catch (ReflectiveOperationException hidden) {
            throw new IllegalStateException(hidden);
        }
    }

    private void sound() {
        of(52);
        says("Checks all.");
        due(() -> new Cycleworks().isSound(), true);
        due(() -> used().isSound(), true);
        due(() -> usedUp().isSound(), true);
        says("Returns whether the energies of bodies and of the gas, and the work, sum up to what was put in");
        due(() -> soundWith(0, "sums", "work", -1), true);
        Cycleworks x = used();
        due(() -> x.setGas(20, 100, 2000) > 0, true);
        due(() -> x.isSound(), true);
        due(() -> x.runCycles(10) != 0, true);
        due(() -> x.isSound(), true);
        due(() -> x.setGas(1, 1, 50) > 0, true);
        due(() -> x.isSound(), true);
        due(() -> x.runPump(0, 1, 1, 100000) + x.runPump(1, 0, 1, 100000) > 0, true);
        due(() -> x.isSound(), true);
        due(() -> x.addBody(2000, 1000), 2);
        due(() -> x.isSound(), true);
        due(() -> new Cycleworks(), y -> y.setGas(1, 10, 300) == 900 && y.isSound(), true);
        due(() -> new Cycleworks(), y -> y.setGas(20, 10, 2000) == 900 && y.isSound(), true);
        due(() -> new Cycleworks(), y -> y.setGas(1, 10, 50) == 900 && y.isSound(), true);
        for (int more : new int[] {-1, 1}) {
            due(() -> soundWith(more, "sums", "work", -1), false);
            due(() -> soundWith(more, "sums", "putIn", -1), false);
            due(() -> soundWith(more, "bodies", "energies", 0), false);
            due(() -> soundWith(more, "bodies", "energies", 1), false);
            due(() -> soundWith(more, "cylinder.energy", "first", -1), false);
        }
        says("no body is below the temperature 50");
        due(() -> soundWithout(10, 0), true);
        due(() -> soundWithout(10, 1), false);
        due(() -> soundWithout(10, -1), true);
        due(() -> BodySentences.with(50, 1).isSound(), true);
        says("what was made of disorder is not below 0");
        int made = used().getMade();
        due(() -> soundWith(-made, "sums", "made", -1), true);
        due(() -> soundWith(-made - 1, "sums", "made", -1), false);
        says("and the work of a plant that closed is the sum of its heats.");
        due(() -> soundWith(0, "ring.solved", "works", 0), true);
        for (int quality : new int[] {0, 50, 100}) {
            due(() -> PlantSentences.solved(quality).plantWork() != 0, true);
            due(() -> PlantSentences.solved(quality).isSound(), true);
        }
        due(() -> PlantSentences.ring("h 9999", "c").solve(10, 190), 1);
        due(() -> PlantSentences.ring("h 9999", "c"), y -> y.solve(10, 190) == 1 && y.isSound(), true);
        for (int more : new int[] {-1, 1}) {
            due(() -> soundWith(more, "ring.solved", "works", 0), false);
            due(() -> soundWith(more, "ring.solved", "heats", 0), false);
        }
        // what has not closed, or was taken away, counts nothing
        due(() -> soundWith(1, "ring.trial", "works", 0), true);
    }
}
