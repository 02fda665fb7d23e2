import java.util.NoSuchElementException;

/** For each promise: ordinary inputs, the edges that the document names, and wrong inputs, reckoned by hand. */
public final class PromiseTest {
    private static final Object RANGE = IllegalArgumentException.class;
    private static final Object STATE = IllegalStateException.class;
    private static final Object INDEX = IndexOutOfBoundsException.class;
    private static final Object NOT = UnsupportedOperationException.class;
    private static final Object NONE = NoSuchElementException.class;
    private static final Object DIVISION = ArithmeticException.class;

    private static final Check CHECK = new Check();

    private PromiseTest() {
    }

    private static void due(String what, Check.Call call, Object due) {
        CHECK.call(what, call, due);
    }

    public static void main(String[] args) {
        newObject();
        bodies();
        conduct();
        engines();
        pumps();
        rows();
        betweenRows();
        states();
        parts();
        solving();
        turbines();
        closing();
        gas();
        strokes();
        running();
        endedRuns();
        cards();
        beyondAnInt();
        beyondALong();
        movesBeyondAnInt();
        streams();
        needs();
        governor();
        trips();
        turns();
        claims();
        sums();
        CHECK.end();
    }

    private static void newObject() {
        Cycleworks x = new Cycleworks();
        due("1 body", () -> x.getTemperature(0), INDEX);
        due("1 work", () -> x.getWork(), 0);
        due("1 made", () -> x.getMade(), 0);
        due("1 rows", () -> x.getBoiling(1), NONE);
        due("1 parts", () -> x.clearParts(), 0);
        due("1 strokes", () -> x.clearStrokes(), 0);
        due("1 streams", () -> x.clearStreams(), 0);
        due("1 gas energy", () -> x.gasEnergy(), 900);
        due("1 gas volume", () -> x.gasVolume(), 10);
        due("1 gas pressure", () -> x.gasPressure(), 60);
        due("1 valve", () -> x.getValve(), 50);
        due("1 turns", () -> x.countTurns(), 0);
        due("1 trip", () -> x.isTripped(), false);
        due("1 checksum", () -> x.checksum(), (((7L * 31) * 31) * 31 + 900) * 31 + 1000);
        due("1 sound", () -> x.isSound(), true);
    }

    private static void bodies() {
        Cycleworks x = new Cycleworks();
        due("2 too cold", () -> x.addBody(49, 1), RANGE);
        due("2 too hot", () -> x.addBody(2001, 1), RANGE);
        due("2 no capacity", () -> x.addBody(300, 0), RANGE);
        due("2 much capacity", () -> x.addBody(300, 1001), RANGE);
        due("2 least", () -> x.addBody(50, 1), 0);
        due("2 most", () -> x.addBody(2000, 1000), 1);
        for (int body = 2; body < 8; body++) {
            int number = body;
            due("2 body", () -> x.addBody(300, 7), number);
        }
        due("2 a ninth", () -> x.addBody(300, 7), STATE);
        due("2 a wrong ninth", () -> x.addBody(49, 7), RANGE);
        due("3 temperature", () -> x.getTemperature(1), 2000);
        due("3 below", () -> x.getTemperature(-1), INDEX);
        due("3 above", () -> x.getTemperature(8), INDEX);
        due("4 energy", () -> x.getEnergy(1), 2000000);
        due("4 small energy", () -> x.getEnergy(0), 50);
        due("4 below", () -> x.getEnergy(-1), INDEX);
        due("4 above", () -> x.getEnergy(8), INDEX);
        due("3 cut", () -> x.conduct(1, 2, 13) - x.conduct(1, 2, 13) + x.getTemperature(2), 303);
    }

    private static void conduct() {
        Cycleworks x = new Cycleworks();
        x.addBody(400, 10);
        x.addBody(300, 10);
        x.addBody(300, 100);
        due("5 no from", () -> x.conduct(3, 0, 0), INDEX);
        due("5 no to", () -> x.conduct(0, -1, 0), INDEX);
        due("5 same", () -> x.conduct(0, 0, 5), RANGE);
        due("5 no heat", () -> x.conduct(0, 1, 0), RANGE);
        due("5 much heat", () -> x.conduct(0, 1, 100001), RANGE);
        due("5 refused", () -> x.conduct(0, 1, 100000), NOT);
        due("5 upward", () -> x.conduct(1, 0, 1), NOT);
        due("5 past the middle", () -> x.conduct(0, 1, 510), NOT);
        due("5 a refused one changes nothing", () -> x.getEnergy(0), 4000);
        // 350 against 350 behind: 500000 / 300 cut is 1666, 500000 / 400 is 1250
        due("5 to the middle", () -> x.conduct(0, 1, 500), 416);
        due("5 from", () -> x.getEnergy(0), 3500);
        due("5 to", () -> x.getEnergy(1), 3500);
        due("5 equal ahead, less behind", () -> x.conduct(0, 1, 1), NOT);
        due("5 made", () -> x.getMade(), 416);
        // 3500 + 9 stays at 350; so 9 go back and forth between equal temperatures: 25 - 26 is not below 0
        Cycleworks y = new Cycleworks();
        y.addBody(350, 10);
        y.addBody(400, 10);
        y.addBody(350, 10);
        due("5 some more", () -> y.conduct(1, 0, 9), 22 + 25 - 22 - 23);
        due("5 at one temperature", () -> y.conduct(0, 2, 9), 0);
        due("5 makes 0 at least", () -> y.getMade(), 2);
        due("50 by one of two", () -> y.makingShare(), 0.5f);
        due("5 no work", () -> y.getWork(), 0);
    }

    private static void engines() {
        Cycleworks x = new Cycleworks();
        x.addBody(600, 100);
        x.addBody(300, 100);
        x.addBody(60, 10);
        due("6 no from", () -> x.runEngine(-1, 0, 0, -1), INDEX);
        due("6 no to", () -> x.runEngine(0, 3, 0, -1), INDEX);
        due("6 same", () -> x.runEngine(1, 1, 10, 1), RANGE);
        due("6 no heat", () -> x.runEngine(0, 1, 0, 0), RANGE);
        due("6 much heat", () -> x.runEngine(0, 1, 100001, 0), RANGE);
        due("6 work below 0", () -> x.runEngine(0, 1, 10, -1), RANGE);
        due("6 work above the heat", () -> x.runEngine(0, 1, 10, 11), RANGE);
        due("6 all work", () -> x.runEngine(0, 1, 10, 10), NOT);
        // the bound: 600 * 500 given at 300 is 1666 less 1667, 501 given is 1670 less 1667
        due("6 beats the bound", () -> x.runEngine(0, 1, 1000, 500), NOT);
        due("6 at the bound", () -> x.runEngine(0, 1, 1000, 499), 3);
        due("6 from", () -> x.getEnergy(0), 59000);
        due("6 to", () -> x.getEnergy(1), 30501);
        due("8 work", () -> x.getWork(), 499);
        due("9 made", () -> x.getMade(), 3);
        due("6 upward", () -> x.runEngine(1, 0, 10, 0), NOT);
        due("6 below 50", () -> x.runEngine(0, 1, 54001, 1), NOT);
        // 590 ahead: 54000 given at 305 is 177049, 54000 taken at 590 is 91526
        due("6 down to 50", () -> x.runEngine(0, 1, 54000, 0), 177049 - 91526);
        due("6 at 50", () -> x.getTemperature(0), 50);
        due("6 still 50", () -> x.runEngine(0, 1, 1, 0), NOT);
        due("8 work stays", () -> x.getWork(), 499);
        due("52 sound", () -> x.isSound(), true);
    }

    private static void pumps() {
        Cycleworks x = new Cycleworks();
        x.addBody(300, 100);
        x.addBody(400, 100);
        x.addBody(60, 10);
        due("7 no from", () -> x.runPump(3, 0, 0, -1), INDEX);
        due("7 no to", () -> x.runPump(0, 3, 0, -1), INDEX);
        due("7 same", () -> x.runPump(0, 0, 1, 1), RANGE);
        due("7 no heat", () -> x.runPump(0, 1, 0, 1), RANGE);
        due("7 much heat", () -> x.runPump(0, 1, 100001, 1), RANGE);
        due("7 work below 0", () -> x.runPump(0, 1, 1, -1), RANGE);
        due("7 much work", () -> x.runPump(0, 1, 1, 100001), RANGE);
        // 300 taken at 300 are 1000; 399 given at 400 are 997
        due("7 no work upward", () -> x.runPump(0, 1, 300, 0), NOT);
        due("7 little work", () -> x.runPump(0, 1, 300, 99), NOT);
        due("7 just enough", () -> x.runPump(0, 1, 300, 100), 0);
        due("7 from", () -> x.getEnergy(0), 29700);
        due("7 to", () -> x.getEnergy(1), 40400);
        due("8 put in", () -> x.getWork(), -100);
        due("50 made none", () -> x.makingShare(), 0f);
        due("7 below 50", () -> x.runPump(2, 0, 101, 100000), NOT);
        // 100000 of work and 100 at 297 are 337037, 100 at 60 are 1667
        due("7 down to 50", () -> x.runPump(2, 0, 100, 100000), 337037 - 1667);
        due("8 more put in", () -> x.getWork(), -100100);
        due("9 made", () -> x.getMade(), 335370);
        due("50 one of two", () -> x.makingShare(), 0.5f);
        // 10 given at 670 are 14, 10 taken at 1400 are 8
        x.addBody(670, 1000);
        x.addBody(1400, 1000);
        due("7 no work downward", () -> x.runPump(4, 3, 10, 0), 6);
        due("52 sound", () -> x.isSound(), true);
    }

    private static void rows() {
        Cycleworks x = new Cycleworks();
        due("10 pressure 0", () -> x.addRow(0, 50, 0, 1), RANGE);
        due("10 pressure 1001", () -> x.addRow(1001, 50, 0, 1), RANGE);
        due("10 boiling 49", () -> x.addRow(1, 49, 0, 1), RANGE);
        due("10 boiling 1000", () -> x.addRow(1, 1000, 0, 1), RANGE);
        due("10 liquid -1", () -> x.addRow(1, 50, -1, 1), RANGE);
        due("10 liquid 10000", () -> x.addRow(1, 50, 10000, 1), RANGE);
        due("10 vapour -1", () -> x.addRow(1, 50, 0, -1), RANGE);
        due("10 vapour 10000", () -> x.addRow(1, 50, 0, 10000), RANGE);
        due("10 vapour as liquid", () -> x.addRow(1, 50, 5, 5), NOT);
        due("10 both 0", () -> x.addRow(1, 50, 0, 0), NOT);
        due("10 first", () -> x.addRow(1, 50, 0, 9999), 1);
        due("10 same pressure", () -> x.addRow(1, 51, 1, 9999), NOT);
        due("10 same boiling", () -> x.addRow(2, 50, 1, 9999), NOT);
        due("10 same liquid", () -> x.addRow(2, 51, 0, 9999), NOT);
        due("10 less vapour", () -> x.addRow(2, 51, 1, 2), 2);
        for (int row = 3; row <= 8; row++) {
            int number = row;
            due("10 row", () -> x.addRow(number, 50 + number, number, 9000), number);
        }
        due("10 a ninth", () -> x.addRow(1000, 999, 9998, 9999), STATE);
        due("10 a ninth that is not greater", () -> x.addRow(8, 999, 9998, 9999), NOT);
        due("10 a wrong ninth", () -> x.addRow(1001, 999, 9998, 9999), RANGE);
        due("11 a ninth changes nothing", () -> x.getBoiling(9), NONE);
        due("11 the eighth", () -> x.getBoiling(8), 58);
    }

    private static void betweenRows() {
        Cycleworks x = new Cycleworks();
        x.addRow(10, 100, 50, 5000);
        due("11 one row", () -> x.getBoiling(10), 100);
        due("11 below it", () -> x.getBoiling(9), NONE);
        due("11 above it", () -> x.getBoiling(11), NONE);
        x.addRow(17, 120, 60, 4990);
        x.addRow(20, 121, 160, 5090);
        due("11 between, cut", () -> x.getBoiling(13), 108);
        due("12 between, cut", () -> x.getLiquid(13), 54);
        // 10 less by 3 of 7: 4.28, cut to 4
        due("13 between, falling", () -> x.getVapour(13), 4996);
        due("11 a row", () -> x.getBoiling(17), 120);
        due("12 a row", () -> x.getLiquid(17), 60);
        due("13 a row", () -> x.getVapour(17), 4990);
        due("11 the next gap", () -> x.getBoiling(19), 120);
        due("12 the next gap", () -> x.getLiquid(19), 126);
        due("13 the next gap", () -> x.getVapour(18), 5023);
        due("11 last", () -> x.getBoiling(20), 121);
        due("12 last", () -> x.getLiquid(20), 160);
        due("13 last", () -> x.getVapour(20), 5090);
        due("12 below", () -> x.getLiquid(9), NONE);
        due("12 above", () -> x.getLiquid(21), NONE);
        due("13 below", () -> x.getVapour(Integer.MIN_VALUE), NONE);
        due("13 above", () -> x.getVapour(Integer.MAX_VALUE), NONE);
    }

    private static void states() {
        Cycleworks x = new Cycleworks();
        due("14 no rows", () -> x.getPhase(10, 0), NONE);
        due("14 no rows, wrong heat", () -> x.getPhase(10, -1), RANGE);
        x.addRow(10, 100, 5000, 6000);
        due("14 much heat", () -> x.getPhase(10, 20001), RANGE);
        due("14 beyond", () -> x.getPhase(11, 20000), NONE);
        due("14 liquid", () -> x.getPhase(10, 4999), 'l');
        due("14 just boils", () -> x.getPhase(10, 5000), 'w');
        due("14 just wet", () -> x.getPhase(10, 6000), 'w');
        due("14 vapour", () -> x.getPhase(10, 6001), 'v');
        due("15 liquid", () -> x.getDryness(10, 4999), 0);
        due("15 just boils", () -> x.getDryness(10, 5000), 0);
        due("15 wet", () -> x.getDryness(10, 5567), 567);
        due("15 just wet", () -> x.getDryness(10, 6000), 1000);
        due("15 vapour", () -> x.getDryness(10, 20000), 1000);
        due("15 heat", () -> x.getDryness(9, -1), RANGE);
        due("15 much heat", () -> x.getDryness(10, 20001), RANGE);
        due("15 beyond", () -> x.getDryness(9, 0), NONE);
        due("16 wet", () -> x.stateTemperature(10, 5000), 100);
        due("16 liquid, cut", () -> x.stateTemperature(10, 4993), 99);
        due("16 a little liquid", () -> x.stateTemperature(10, 4997), 100);
        due("16 1 at least", () -> x.stateTemperature(10, 4600), 1);
        due("16 2 above", () -> x.stateTemperature(10, 4608), 2);
        due("16 far below", () -> x.stateTemperature(10, 0), 1);
        due("16 vapour, cut", () -> x.stateTemperature(10, 6003), 101);
        due("16 hot vapour", () -> x.stateTemperature(10, 20000), 7100);
        due("16 heat", () -> x.stateTemperature(9, -1), RANGE);
        due("16 much heat", () -> x.stateTemperature(10, 20001), RANGE);
        due("16 beyond", () -> x.stateTemperature(9, 0), NONE);
        x.addRow(17, 101, 5001, 6003);
        // 5003 - 5000 of 6001 - 5000: 2.997, cut
        due("15 cut", () -> x.getDryness(14, 5003), 2);
    }

    private static void parts() {
        Cycleworks x = new Cycleworks();
        due("17 kind", () -> x.addPart('x', 5, 5), RANGE);
        for (char kind : "ptv".toCharArray()) {
            due("17 pressure 0", () -> x.addPart(kind, 0, 0), RANGE);
            due("17 pressure 1001", () -> x.addPart(kind, 1001, 0), RANGE);
        }
        due("17 heat 0", () -> x.addPart('h', 0, 0), RANGE);
        due("17 heat 10000", () -> x.addPart('h', 10000, 0), RANGE);
        due("17 quality -1", () -> x.addPart('t', 1, -1), RANGE);
        due("17 quality 101", () -> x.addPart('t', 1, 101), RANGE);
        due("17 pump", () -> x.addPart('p', 1000, -1), 1);
        due("17 heater", () -> x.addPart('h', 9999, -1), 2);
        due("17 turbine", () -> x.addPart('t', 1, 0), 3);
        due("17 best turbine", () -> x.addPart('t', 1, 100), 4);
        due("17 condenser", () -> x.addPart('c', -1, -1), 5);
        due("17 valve", () -> x.addPart('v', 1, 101), 6);
        due("17 small heater", () -> x.addPart('h', 1, 0), 7);
        due("17 an eighth", () -> x.addPart('c', 0, 0), 8);
        due("17 a ninth", () -> x.addPart('c', 0, 0), STATE);
        due("17 a wrong ninth", () -> x.addPart('h', 0, 0), RANGE);
        due("18 clear", () -> x.clearParts(), 8);
        due("18 clear again", () -> x.clearParts(), 0);
    }

    private static Cycleworks withTable() {
        Cycleworks x = new Cycleworks();
        x.addRow(10, 320, 190, 2580);
        x.addRow(100, 450, 760, 2780);
        x.addRow(200, 490, 910, 2790);
        return x;
    }

    private static void solving() {
        Cycleworks x = withTable();
        due("19 heat", () -> x.solve(10, -1), RANGE);
        due("19 much heat", () -> x.solve(10, 20001), RANGE);
        due("19 no parts", () -> x.solve(5, 0), STATE);
        due("20 unsolved", () -> x.partWork(-1), STATE);
        due("21 unsolved", () -> x.partHeat(0), STATE);
        due("22 unsolved", () -> x.partLost(0), STATE);
        due("23 unsolved", () -> x.pressureAhead(0), STATE);
        due("24 unsolved", () -> x.heatAhead(0), STATE);
        due("25 unsolved", () -> x.plantWork(), STATE);
        x.addPart('c', 0, 0);
        due("19 beyond the rows", () -> x.solve(9, 500), NOT);
        due("19 beyond the rows above", () -> x.solve(201, 500), NOT);
        due("19 would have to heat", () -> x.solve(10, 189), NOT);
        due("19 closes at once", () -> x.solve(10, 190), 1);
        due("21 takes none", () -> x.partHeat(0), 0);
        due("19 closes in the second round", () -> x.solve(10, 20000), 2);
        due("21 of the round that closed", () -> x.partHeat(0), 0);
        due("24 of the round that closed", () -> x.heatAhead(0), 190);
        due("19 refused", () -> x.solve(100, 700), NOT);
        due("24 a refused one changes nothing", () -> x.heatAhead(0), 190);
        due("18 clear", () -> x.clearParts(), 1);
        due("24 clear takes what was solved", () -> x.heatAhead(0), STATE);
        x.addPart('h', 9, 0);
        due("19 does not close", () -> x.solve(10, 0), NONE);
        due("19 just below 20000", () -> x.solve(10, 20000 - 540), NONE);
        due("19 above 20000", () -> x.solve(10, 20000 - 539), NOT);
        x.clearParts();
        x.addPart('p', 100, 0);
        due("19 does not lead up", () -> x.solve(100, 500), NOT);
        due("19 up, but not in round 2", () -> x.solve(10, 500), NOT);
        due("19 the heat of a pump", () -> x.solve(10, 19992), NOT);
        x.addPart('c', 0, 0);
        x.addPart('v', 10, 0);
        due("19 20000 behind a pump", () -> x.solve(10, 19991), 2);
        due("19 above 20000 behind a pump", () -> x.solve(10, 19992), NOT);
        x.clearParts();
        x.addPart('p', 201, 0);
        due("19 a pump beyond the rows", () -> x.solve(10, 500), NOT);
        x.clearParts();
        x.addPart('v', 9, 0);
        due("19 a valve beyond the rows", () -> x.solve(10, 500), NOT);
        x.clearParts();
        x.addPart('t', 10, 100);
        due("19 a turbine not down", () -> x.solve(10, 500), NOT);
    }

    private static void turbines() {
        Cycleworks x = withTable();
        x.addPart('t', 10, 50);
        x.addPart('c', 0, 0);
        x.addPart('p', 200, 0);
        x.addPart('h', 2500, 0);
        // behind: 190, 190 + 19, 2709; ahead of the turbine 490 degrees: (2709 - 190) * 170 / 490 = 873.9
        due("19 a turbine first", () -> x.solve(200, 2709), 1);
        due("20 turbine", () -> x.partWork(0), 436);
        due("22 turbine", () -> x.partLost(0), 437);
        due("21 turbine", () -> x.partHeat(0), 0);
        due("23 turbine", () -> x.pressureAhead(0), 200);
        due("24 turbine", () -> x.heatAhead(0), 2709);
        due("20 condenser", () -> x.partWork(1), 0);
        due("21 condenser", () -> x.partHeat(1), 190 - (2709 - 436));
        due("22 condenser", () -> x.partLost(1), 0);
        due("23 condenser", () -> x.pressureAhead(1), 10);
        due("24 condenser", () -> x.heatAhead(1), 2273);
        due("20 pump", () -> x.partWork(2), -19);
        due("21 pump", () -> x.partHeat(2), 0);
        due("22 pump", () -> x.partLost(2), 0);
        due("23 pump", () -> x.pressureAhead(2), 10);
        due("24 pump", () -> x.heatAhead(2), 190);
        due("20 heater", () -> x.partWork(3), 0);
        due("21 heater", () -> x.partHeat(3), 2500);
        due("22 heater", () -> x.partLost(3), 0);
        due("23 heater", () -> x.pressureAhead(3), 200);
        due("24 heater", () -> x.heatAhead(3), 209);
        due("25 plant", () -> x.plantWork(), 417);
        due("20 below", () -> x.partWork(-1), NONE);
        due("20 above", () -> x.partWork(4), NONE);
        due("21 above", () -> x.partHeat(4), NONE);
        due("22 above", () -> x.partLost(4), NONE);
        due("23 above", () -> x.pressureAhead(4), NONE);
        due("24 above", () -> x.heatAhead(4), NONE);
        due("17 one more", () -> x.addPart('v', 10, 0), 5);
        due("17 stays without it", () -> x.partWork(4), NONE);
        due("17 stays", () -> x.plantWork(), 417);
        due("52 sound", () -> x.isSound(), true);
    }

    private static void closing() {
        Cycleworks x = withTable();
        // a turbine without heat above liquid, or as cold as boiling behind it, makes nothing
        x.addPart('p', 100, 0);
        x.addPart('t', 10, 100);
        x.addPart('c', 0, 0);
        // 320 - (760 - 199) / 4 lies below the boiling temperature of 10
        due("19 a cold turbine", () -> x.solve(10, 190), 1);
        due("20 makes nothing", () -> x.partWork(1), 0);
        due("22 loses nothing", () -> x.partLost(1), 0);
        due("21 the work of the pump", () -> x.partHeat(2), -9);
        due("19 with vapour", () -> x.solve(10, 2600), 2);
        // far more than vapour at 100: hot enough, but with less heat than liquid has at 10 there is no work
        Cycleworks y = new Cycleworks();
        y.addRow(10, 100, 400, 9000);
        y.addRow(20, 500, 401, 9001);
        y.addPart('t', 10, 100);
        y.addPart('h', 1, 0);
        y.addPart('p', 20, 0);
        // 301 is 99 short of the 400 at 10; 2 more each round, till 403 makes 3 * 400 / 500 = 2 in the 52nd
        due("19 hot, but without heat", () -> y.solve(20, 301), 52);
        due("20 then with some", () -> y.partWork(0), 2);
        due("19 60 rounds are too few", () -> y.solve(20, 283), NONE);
        due("19 60 rounds are enough", () -> y.solve(20, 285), 60);
        y.clearParts();
        y.addPart('t', 10, 100);
        y.addPart('p', 20, 0);
        y.addPart('h', 1, 0);
        y.addPart('v', 10, 0);
        y.addPart('p', 20, 0);
        y.addPart('c', 0, 0);
        // ahead 401 at 500 degrees: 1 * 400 / 500 is cut to 0
        due("19 with a little heat", () -> y.solve(20, 401), 1);
        due("22 cut", () -> y.partLost(0), 0);
        due("21 what a pump of 10 and a heater gave", () -> y.partHeat(5), -3);
        due("25 two pumps", () -> y.plantWork(), -2);
        x.clearParts();
        x.addPart('v', 10, 0);
        x.addPart('c', 0, 0);
        x.addPart('p', 105, 0);
        x.addPart('h', 1, 0);
        // behind the first round the state is that of 105: 190 + 9 + 1
        due("19 a valve", () -> x.solve(105, 5000), 2);
        due("24 a valve", () -> x.heatAhead(0), 200);
        due("20 a valve", () -> x.partWork(0), 0);
        due("21 a valve", () -> x.partHeat(0), 0);
        due("22 a valve", () -> x.partLost(0), 0);
        due("21 behind a valve", () -> x.partHeat(1), -10);
        due("25 a pump alone", () -> x.plantWork(), -9);
        due("19 not the pressure ahead", () -> x.solve(106, 200), 2);
        due("19 too cold", () -> x.solve(105, 189), NOT);
    }

    private static void gas() {
        Cycleworks x = new Cycleworks();
        due("26 amount 0", () -> x.setGas(0, 10, 300), RANGE);
        due("26 amount 21", () -> x.setGas(21, 10, 300), RANGE);
        due("26 volume 0", () -> x.setGas(1, 0, 300), RANGE);
        due("26 volume 101", () -> x.setGas(1, 101, 300), RANGE);
        due("26 temperature 49", () -> x.setGas(1, 10, 49), RANGE);
        due("26 temperature 2001", () -> x.setGas(1, 10, 2001), RANGE);
        due("26 most", () -> x.setGas(20, 100, 2000), 900);
        due("31 most", () -> x.gasEnergy(), 120000);
        due("32 most", () -> x.gasPressure(), 800);
        due("33 most", () -> x.gasVolume(), 100);
        due("26 least", () -> x.setGas(1, 1, 50), 120000);
        due("31 least", () -> x.gasEnergy(), 150);
        due("32 least", () -> x.gasPressure(), 100);
        due("26 another", () -> x.setGas(1, 7, 100), 150);
        due("32 cut", () -> x.gasPressure(), 28);
        due("8 no work", () -> x.getWork(), 0);
        due("52 sound", () -> x.isSound(), true);
    }

    private static void strokes() {
        Cycleworks x = new Cycleworks();
        due("27 kind", () -> x.addStroke('x', 5, 0), RANGE);
        due("27 volume 0", () -> x.addStroke('a', 0, 0), RANGE);
        due("27 volume 101", () -> x.addStroke('i', 101, 0), RANGE);
        due("27 no body, i", () -> x.addStroke('i', 100, 0), INDEX);
        due("27 no body, v", () -> x.addStroke('v', 0, 0), INDEX);
        due("27 a", () -> x.addStroke('a', 100, -1), 1);
        x.addBody(300, 10);
        due("27 body -1", () -> x.addStroke('i', 100, -1), INDEX);
        due("27 i", () -> x.addStroke('i', 1, 0), 2);
        due("27 v", () -> x.addStroke('v', -1, 0), 3);
        for (int stroke = 4; stroke <= 8; stroke++) {
            int number = stroke;
            due("27 stroke", () -> x.addStroke('a', 1, 5), number);
        }
        due("27 a ninth", () -> x.addStroke('a', 1, 0), STATE);
        due("27 a ninth without a body", () -> x.addStroke('i', 1, 1), INDEX);
        due("27 a wrong ninth", () -> x.addStroke('i', 0, 1), RANGE);
        due("28 clear", () -> x.clearStrokes(), 8);
        due("28 clear again", () -> x.clearStrokes(), 0);
    }

    private static void running() {
        Cycleworks x = new Cycleworks();
        due("29 none", () -> x.runCycles(0), RANGE);
        due("29 many", () -> x.runCycles(11), RANGE);
        due("29 no strokes", () -> x.runCycles(1), STATE);
        due("30 no run", () -> x.wasEnded(), STATE);
        due("34 no run", () -> x.cardAt(0), NONE);
        x.addStroke('a', 12, 0);
        // 900 at 10: 60 of work; 840 at 11: 50
        due("29 out", () -> x.runCycles(1), 110);
        due("31 out", () -> x.gasEnergy(), 790);
        due("33 out", () -> x.gasVolume(), 12);
        due("32 out", () -> x.gasPressure(), 43);
        due("34 first", () -> x.cardAt(0), 60);
        due("34 second", () -> x.cardAt(1), 50);
        due("34 third", () -> x.cardAt(2), NONE);
        due("34 below", () -> x.cardAt(-1), NONE);
        due("8 work", () -> x.getWork(), 110);
        due("29 nowhere", () -> x.runCycles(10), 0);
        due("34 an empty card", () -> x.cardAt(0), NONE);
        due("30 not ended", () -> x.wasEnded(), false);
        x.clearStrokes();
        x.addStroke('a', 10, 0);
        // 790 at 12: 43 put in; 833 at 11: 50
        due("29 in", () -> x.runCycles(1), -93);
        due("31 in", () -> x.gasEnergy(), 883);
        x.clearStrokes();
        x.addBody(100, 10);
        x.addStroke('i', 11, 0);
        x.addStroke('v', 0, 0);
        // 58 of work; 825 less 300 go to the body; then it has 152 degrees, and gives 456 less 300
        due("29 with a body", () -> x.runCycles(1), 58);
        due("31 as the body", () -> x.gasEnergy(), 456);
        due("4 the body", () -> x.getEnergy(0), 1000 + 525 - 156);
        due("34 of v", () -> x.cardAt(1), 18);
        due("34 no third", () -> x.cardAt(2), NONE);
        due("8 all work", () -> x.getWork(), 110 - 93 + 58);
        due("9 none made", () -> x.getMade(), 0);
        due("50 no move", () -> x.makingShare(), DIVISION);
        due("52 sound", () -> x.isSound(), true);
    }

    private static void endedRuns() {
        Cycleworks x = new Cycleworks();
        x.addBody(60, 100);
        x.addBody(2000, 1);
        x.setGas(1, 1, 50);
        x.addStroke('v', 0, 0);
        x.addStroke('a', 2, 0);
        x.addStroke('v', 0, 1);
        x.addStroke('a', 3, 0);
        // 30 of the first body; 120 of work at 180; then 6000 are wanted of 2000
        due("29 until it ends", () -> x.runCycles(10), 120);
        due("30 ended", () -> x.wasEnded(), true);
        due("31 ahead of the step", () -> x.gasEnergy(), 60);
        due("33 ahead of the step", () -> x.gasVolume(), 2);
        due("4 first", () -> x.getEnergy(0), 5970);
        due("4 second", () -> x.getEnergy(1), 2000);
        due("34 ahead of v", () -> x.cardAt(0), 100);
        due("34 ahead of a", () -> x.cardAt(1), 120);
        due("34 not ahead of the end", () -> x.cardAt(2), NONE);
        due("28 clear", () -> x.clearStrokes(), 4);
        due("30 still ended", () -> x.wasEnded(), true);
        x.addStroke('i', 1, 0);
        // 20 put in; 177 wanted at 59 degrees, 80 had
        due("29 on", () -> x.runCycles(1), -20);
        due("30 not ended", () -> x.wasEnded(), false);
        due("4 given", () -> x.getEnergy(0), 5970 - 97);
        due("52 sound", () -> x.isSound(), true);
        // 3 * 200 wanted of 150: 450 are lacking, so a body of 200 * 3 stays at 150 = 50 * 3, one less does not
        for (int less = 0; less < 2; less++) {
            int lacking = less;
            Cycleworks y = new Cycleworks();
            y.addBody(200, 3);
            y.addBody(200, 1000);
            y.setGas(1, 10, 50);
            if (lacking == 1) {
                y.addStroke('a', 11, 0);
            }
            y.addStroke('v', 0, 0);
            due("29 at 50", () -> y.runCycles(1), lacking * 10);
            due("30 at 50", () -> y.wasEnded(), lacking == 1);
            due("3 at 50", () -> y.getTemperature(0), lacking == 1 ? 200 : 50);
        }
    }

    private static void cards() {
        Cycleworks x = new Cycleworks();
        x.setGas(1, 1, 300);
        x.addStroke('a', 100, 0);
        x.addStroke('a', 1, 0);
        due("29 198 steps", () -> x.runCycles(1) > 0, true);
        due("34 the last one", () -> x.cardAt(197) > 0, true);
        due("34 none behind", () -> x.cardAt(198), NONE);
        due("29 396 steps", () -> x.runCycles(2) >= 0, true);
        due("34 299", () -> x.cardAt(299) >= 0, true);
        due("34 300", () -> x.cardAt(300), NONE);
        due("34 396", () -> x.cardAt(395), NONE);
        due("30 not ended", () -> x.wasEnded(), false);
        x.setGas(1, 1, 300);
        due("34 of the last run", () -> x.cardAt(299) >= 0, true);
    }

    /** Strokes that in each cycle nearly double the energy of a body. */
    private static Cycleworks heap(int runs) {
        Cycleworks x = new Cycleworks();
        x.addBody(300, 100);
        x.addBody(300, 1000);
        x.setGas(20, 100, 300);
        x.addStroke('a', 1, 0);
        x.addStroke('v', 1, 0);
        x.addStroke('i', 100, 0);
        for (int run = 0; run < runs; run++) {
            x.runCycles(10);
        }
        return x;
    }

    private static void beyondAnInt() {
        Cycleworks x = heap(1);
        due("29 heaps up", () -> x.runCycles(5), -379846556);
        due("31 heaped up", () -> x.gasEnergy(), 150060600);
        x.clearStrokes();
        x.addStroke('a', 1, 0);
        x.addStroke('a', 100, 0);
        // 2160674533 at the volume 1, and 37645735 behind it
        due("29 beyond an int and back", () -> x.runCycles(1), 150060600 - 37645735);
        due("30 not ended by a great energy", () -> x.wasEnded(), false);
        due("31 back", () -> x.gasEnergy(), 37645735);
        due("33 back", () -> x.gasVolume(), 100);
        // from 1 to 2 the pressure ahead is 2 * 2160674533 / 3
        due("34 a pressure of a great energy", () -> x.cardAt(99), 1440449688);
        due("52 sound", () -> x.isSound(), true);
    }

    private static void beyondALong() {
        Cycleworks x = heap(10);
        due("30 not ended", () -> x.wasEnded(), false);
        due("51 beyond a long", () -> x.meanTemperature() > 1e19, true);
        due("52 sound", () -> x.isSound(), true);
        int energy = x.getEnergy(0);
        x.clearStrokes();
        x.addStroke('v', 0, 0);
        x.setGas(20, 1, 50);
        due("29 no work", () -> x.runCycles(1), 0);
        due("4 what the gas got", () -> x.getEnergy(0) + x.gasEnergy(), energy + 3000);
        // each fresh gas takes 60 hundredths, and behind them all the body is as cold as the gas
        for (int fresh = 0; fresh < 120; fresh++) {
            x.setGas(20, 1, 50);
            due("29 fresh", () -> x.runCycles(1), 0);
            due("30 fresh", () -> x.wasEnded(), false);
        }
        due("3 cold again", () -> x.getTemperature(0), 50);
        due("31 cold again", () -> x.gasEnergy(), 3000);
        due("51 cold again", () -> x.meanTemperature(), 175.0);
        due("52 sound again", () -> x.isSound(), true);
    }

    private static void movesBeyondAnInt() {
        Cycleworks x = heap(10);
        // 1 at 300 is 3, at any great temperature 0, and rounded up 1
        due("5 from a great one", () -> x.conduct(0, 1, 1), 3 - 1);
        due("5 not to a great one", () -> x.conduct(1, 0, 1), NOT);
        due("5 much", () -> x.conduct(0, 1, 100000), 333333 - 1);
        due("6 no rest", () -> x.runEngine(0, 1, 100000, 100000), NOT);
        // at 400 now
        due("6 a rest", () -> x.runEngine(0, 1, 100000, 99999), 2 - 1);
        due("7 to a great one", () -> x.runPump(1, 0, 1, 100000), NOT);
        due("7 from a great one", () -> x.runPump(0, 1, 1, 1), 5 - 1);
        Cycleworks y = new Cycleworks();
        y.addBody(1804, 1000);
        y.addBody(300, 1000);
        y.setGas(20, 1, 300);
        y.addStroke('i', 10, 0);
        y.addStroke('a', 1, 0);
        y.addStroke('v', 1, 0);
        for (int run = 0; run < 44; run++) {
            y.runCycles(10);
        }
        y.runCycles(9);
        due("4 near the greatest int", () -> y.getEnergy(0), 2147303763);
        // 100001000 / 2147303, cut, is 46; 1000 / 300, rounded up, 4
        due("7 up to it", () -> y.runPump(1, 0, 1, 100000), 46 - 4);
        due("7 beyond it", () -> y.runPump(1, 0, 1, 100000), 46 - 4);
        due("3 beyond it", () -> y.getTemperature(0), 2147503);
        due("5 beyond it", () -> y.conduct(0, 1, 3), 10 - 1);
        due("6 beyond it", () -> y.runEngine(0, 1, 3, 0), 10 - 1);
        due("52 beyond it", () -> y.isSound(), true);
        // the work of strokes is what both energies, less those at first, come to
        long work = 1804000L + 18000 - 2147303763L - y.gasEnergy() - 200000;
        long sum = 7;
        for (long part : new long[] {2147503765L - 6, 300004, work, 42 + 42 + 9 + 9, y.gasEnergy(), 1000}) {
            sum = 31 * sum + part;
        }
        long dueSum = sum;
        due("49 beyond it", () -> y.checksum(), dueSum);
    }

    private static void streams() {
        Cycleworks x = new Cycleworks();
        due("35 from 49", () -> x.addStream(49, 60, 1), RANGE);
        due("35 from 1000", () -> x.addStream(1000, 60, 1), RANGE);
        due("35 to 49", () -> x.addStream(60, 49, 1), RANGE);
        due("35 to 1000", () -> x.addStream(60, 1000, 1), RANGE);
        due("35 flow 0", () -> x.addStream(60, 70, 0), RANGE);
        due("35 flow 51", () -> x.addStream(60, 70, 51), RANGE);
        due("35 same", () -> x.addStream(60, 60, 1), RANGE);
        for (int stream = 1; stream <= 10; stream++) {
            int number = stream;
            due("35 stream", () -> x.addStream(999, 50, 50), number);
        }
        due("35 an eleventh", () -> x.addStream(999, 50, 50), STATE);
        due("35 a wrong eleventh", () -> x.addStream(999, 50, 51), RANGE);
        due("37 hot alone", () -> x.heatNeeded(100), 0);
        due("38 hot alone", () -> x.coldNeeded(100), 10 * 50 * 949);
        due("36 clear", () -> x.clearStreams(), 10);
        due("36 clear again", () -> x.clearStreams(), 0);
        due("38 none", () -> x.coldNeeded(0), 0);
        x.addStream(50, 999, 50);
        due("37 cold alone", () -> x.heatNeeded(0), 50 * 949);
        due("38 cold alone", () -> x.coldNeeded(0), 0);
        due("39 cold alone", () -> x.pinch(0), 50);
    }

    private static void needs() {
        Cycleworks x = new Cycleworks();
        due("37 approach -1", () -> x.heatNeeded(-1), RANGE);
        due("37 approach 101", () -> x.heatNeeded(101), RANGE);
        due("38 approach -1", () -> x.coldNeeded(-1), RANGE);
        due("38 approach 101", () -> x.coldNeeded(101), RANGE);
        due("39 approach -1", () -> x.pinch(-1), RANGE);
        due("39 approach 101", () -> x.pinch(101), RANGE);
        due("39 no streams", () -> x.pinch(100), NONE);
        x.addStream(60, 50, 3);
        x.addStream(50, 70, 2);
        // at 0: -20 down to 60, then +1 a degree
        due("37 need", () -> x.heatNeeded(0), 20);
        due("38 need", () -> x.coldNeeded(0), 10);
        due("39 pinch", () -> x.pinch(0), 60);
        // at 10: the hot one gives 3 a degree from 50 to 40 only
        due("37 approach", () -> x.heatNeeded(10), 40);
        due("38 approach", () -> x.coldNeeded(10), 30);
        due("39 approach", () -> x.pinch(10), 50);
        due("39 far", () -> x.pinch(100), 50);
        x.clearStreams();
        x.addStream(80, 70, 1);
        x.addStream(80, 90, 1);
        x.addStream(60, 65, 1);
        x.addStream(60, 65, 1);
        // -10 at 80, 0 at 70, -10 at 60: the higher one of two
        due("37 two", () -> x.heatNeeded(0), 10);
        due("39 two", () -> x.pinch(0), 80);
        x.addStream(75, 65, 2);
        // 15 more at 70, 10 at 65: then none falls as low as at 80
        due("38 two", () -> x.coldNeeded(0), 20);
    }

    private static void governor() {
        Cycleworks x = new Cycleworks();
        due("40 set -1", () -> x.setGovernor(-1, 0, 0, 0), RANGE);
        due("40 set 3001", () -> x.setGovernor(3001, 0, 0, 0), RANGE);
        due("40 gain -1", () -> x.setGovernor(0, -1, 0, 0), RANGE);
        due("40 gain 101", () -> x.setGovernor(0, 101, 0, 0), RANGE);
        due("40 stiction -1", () -> x.setGovernor(0, 0, -1, 0), RANGE);
        due("40 stiction 51", () -> x.setGovernor(0, 0, 51, 0), RANGE);
        due("40 limit -1", () -> x.setGovernor(0, 0, 0, -1), RANGE);
        due("40 limit 5001", () -> x.setGovernor(0, 0, 0, 5001), RANGE);
        due("41 load -1", () -> x.setLoad(-1), RANGE);
        due("41 load 101", () -> x.setLoad(101), RANGE);
        due("42 none", () -> x.runSeconds(0), RANGE);
        due("42 many", () -> x.runSeconds(501), RANGE);
        due("42 at rest", () -> x.runSeconds(500), 1000);
        Cycleworks y = new Cycleworks();
        y.setLoad(40);
        // as it is at first: 1040 at 50, 1064 at 46, 1064 at 40
        due("40 the gain at first", () -> y.runSeconds(3), 1064);
        due("43 the gain at first", () -> y.getValve(), 40);
        due("44 no turn at first", () -> y.countTurns(), 0);
        due("40 gain 0", () -> y.setGovernor(3000, 0, 0, 3000), 1000);
        due("43 gain 0", () -> y.runSeconds(1) + y.getValve(), 1064 + 40);
        Cycleworks z = new Cycleworks();
        z.setLoad(47);
        due("40 no stiction at first", () -> z.runSeconds(2), 1020);
        due("43 no stiction at first", () -> z.getValve(), 49);
        due("43 at rest", () -> x.getValve(), 50);
        due("41 load", () -> x.setLoad(47), 50);
        due("41 load again", () -> x.setLoad(47), 47);
        due("40 governor", () -> x.setGovernor(1014, 50, 0, 5000), 1000);
        // 7 more: 57; 4 times 10
        due("42 faster", () -> x.runSeconds(1), 1040);
        due("43 wider", () -> x.getValve(), 57);
        // 26 too fast: 13 less
        due("42 slower", () -> x.runSeconds(1), 1028);
        due("43 narrower", () -> x.getValve(), 44);
        due("44 turned", () -> x.countTurns(), 1);
        due("40 weak", () -> x.setGovernor(1014, 7, 0, 5000), 1014);
        // 14 too fast by 7 hundredths: 0.98, cut to 0
        due("42 cut to none", () -> x.runSeconds(1), 1016);
        due("43 stays", () -> x.getValve(), 44);
        due("40 stiff", () -> x.setGovernor(1026, 50, 5, 5000), 1014);
        due("42 5 is not farther", () -> x.runSeconds(1), 1004);
        due("43 sticks", () -> x.getValve(), 44);
        due("42 11 is farther", () -> x.runSeconds(1), 1036);
        due("43 goes", () -> x.getValve(), 55);
        due("41 no load", () -> x.setLoad(100), 47);
        due("40 stop", () -> x.setGovernor(0, 100, 0, 5000), 1026);
        due("42 0 at least", () -> x.runSeconds(3), 0);
        due("43 shut", () -> x.getValve(), 0);
        due("40 open", () -> x.setGovernor(3000, 100, 50, 0), 0);
        due("42 open", () -> x.runSeconds(1), 0);
        due("43 open", () -> x.getValve(), 100);
        due("45 not above the limit", () -> x.isTripped(), false);
    }

    private static void trips() {
        Cycleworks x = new Cycleworks();
        due("46 no trip", () -> x.resetTrip(), false);
        x.setLoad(0);
        x.setGovernor(3000, 100, 0, 1800);
        due("42 up to the limit", () -> x.runSeconds(2), 1800);
        due("45 not above it", () -> x.isTripped(), false);
        due("42 above it", () -> x.runSeconds(1), 2200);
        due("45 above it", () -> x.isTripped(), true);
        due("46 too fast", () -> x.resetTrip(), NOT);
        due("45 still", () -> x.isTripped(), true);
        due("42 no load", () -> x.runSeconds(2), 2200);
        due("43 the valve itself", () -> x.getValve(), 100);
        x.setLoad(100);
        due("42 down to the limit", () -> x.runSeconds(1), 1800);
        due("45 till it is reset", () -> x.isTripped(), true);
        due("46 reset", () -> x.resetTrip(), true);
        due("45 no more", () -> x.isTripped(), false);
        due("46 reset again", () -> x.resetTrip(), false);
        x.setGovernor(3000, 100, 0, 1000);
        due("45 not by a limit alone", () -> x.isTripped(), false);
        due("46 too fast without a trip", () -> x.resetTrip(), NOT);
        due("42 open by the load", () -> x.runSeconds(1), 1800);
        due("45 by the second", () -> x.isTripped(), true);
        x.setGovernor(0, 100, 0, 1800);
        x.setLoad(10);
        // the governor moves the valve in a trip, too
        due("42 in a trip", () -> x.runSeconds(1), 1760);
        due("43 in a trip", () -> x.getValve(), 0);
        due("44 in a trip", () -> x.countTurns(), 1);
    }

    private static void turns() {
        Cycleworks x = new Cycleworks();
        x.setLoad(50);
        x.setGovernor(1010, 100, 0, 5000);
        x.runSeconds(1);
        due("44 first way", () -> x.countTurns(), 0);
        // 1040 at 60; down by 30 to 30: 960; up by 50: 80
        due("44 down", () -> x.runSeconds(1), 960);
        due("44 down turned", () -> x.countTurns(), 1);
        due("44 up", () -> x.runSeconds(1), 1080);
        due("44 up turned", () -> x.countTurns(), 2);
        x.setGovernor(1080, 100, 0, 5000);
        due("44 rests", () -> x.runSeconds(1), 1200);
        due("44 no turn by rest", () -> x.countTurns(), 2);
        x.setGovernor(1210, 100, 0, 5000);
        x.runSeconds(1);
        due("44 the same way behind a rest", () -> x.countTurns(), 2);
        due("44 the valve", () -> x.getValve(), 90);
    }

    private static void claims() {
        Cycleworks x = new Cycleworks();
        due("47 heat 0", () -> x.claim(0, 600, 300, 1), RANGE);
        due("47 heat 100001", () -> x.claim(100001, 600, 300, 1), RANGE);
        due("47 hot 2001", () -> x.claim(1, 2001, 300, 1), RANGE);
        due("47 cold 49", () -> x.claim(1, 600, 49, 1), RANGE);
        due("47 hot 49", () -> x.claim(1, 49, 48, 1), RANGE);
        due("47 not lower", () -> x.claim(1, 300, 300, 1), RANGE);
        due("47 higher", () -> x.claim(1, 300, 301, 1), RANGE);
        due("47 work -1", () -> x.claim(1, 600, 300, -1), RANGE);
        due("47 work 200001", () -> x.claim(1, 600, 300, 200001), RANGE);
        due("47 no work", () -> x.claim(1200, 600, 300, 0), '-');
        due("47 much work", () -> x.claim(100000, 2000, 50, 200000), 'e');
        due("47 all work", () -> x.claim(1000, 600, 300, 1000), 'd');
        due("47 some more", () -> x.claim(1000, 600, 300, 1001), 'e');
        due("47 at the bound", () -> x.claim(1200, 600, 300, 600), '-');
        due("47 above the bound", () -> x.claim(1200, 600, 300, 601), 'd');
        due("47 rounded", () -> x.claim(1000, 600, 300, 500), 'd');
        due("47 below the bound", () -> x.claim(1000, 600, 300, 499), '-');
        due("48 heat 0", () -> x.bestWork(0, 600, 300), RANGE);
        due("48 heat 100001", () -> x.bestWork(100001, 600, 300), RANGE);
        due("48 hot 2001", () -> x.bestWork(1, 2001, 300), RANGE);
        due("48 cold 49", () -> x.bestWork(1, 600, 49), RANGE);
        due("48 not lower", () -> x.bestWork(1, 300, 300), RANGE);
        due("48 at the bound", () -> x.bestWork(1200, 600, 300), 600);
        due("48 rounded", () -> x.bestWork(1000, 600, 300), 499);
        due("48 none", () -> x.bestWork(1, 1000, 999), 0);
        due("48 nothing", () -> x.bestWork(1, 999, 998), NONE);
        due("48 most", () -> x.bestWork(100000, 2000, 50), 97500);
    }

    private static void sums() {
        Cycleworks x = new Cycleworks();
        due("51 none", () -> x.meanTemperature(), DIVISION);
        due("50 none", () -> x.makingShare(), DIVISION);
        x.addBody(300, 10);
        x.addBody(401, 10);
        due("51 mean", () -> x.meanTemperature(), 350.5);
        x.addBody(300, 10);
        due("51 of three", () -> x.meanTemperature(), 1001.0 / 3.0);
        due("50 refused", () -> x.conduct(0, 1, 1), NOT);
        due("50 refused ones do not count", () -> x.makingShare(), DIVISION);
        // 100 at 300 are 333, at 401 250
        due("5 one", () -> x.conduct(1, 0, 100), 83);
        // 33 given at 391 are 84, 30 taken at 310 97: refused; 38 given are 97
        due("7 refused", () -> x.runPump(0, 1, 30, 7), NOT);
        due("7 none made", () -> x.runPump(0, 1, 30, 8), 0);
        due("5 two", () -> x.conduct(1, 2, 30), 100 - 77);
        due("50 two of three", () -> x.makingShare(), 2f / 3f);
        long sum = 7;
        for (int part : new int[] {3070, 3918, 3030, -8, 106, 900, 1000}) {
            sum = 31 * sum + part;
        }
        long dueSum = sum;
        due("49 checksum", () -> x.checksum(), dueSum);
        due("52 sound", () -> x.isSound(), true);
    }
}
