import java.util.ArrayList;
import java.util.Arrays;
import java.util.List;

/** What an object tells of itself: two objects that tell the same are in the same state, as far as the face goes. */
final class Told {
    private static final int[] PRESSURES = {1, 5, 9, 10, 11, 13, 17, 20, 55, 100, 150, 200, 201, 999, 1000};
    private static final int[] STEPS = {-1, 0, 1, 2, 3, 298, 299, 300};

    private Told() {
    }

    /** All that the face tells without a change. */
    static List<Object> still(Cycleworks x) {
        List<Object> all = new ArrayList<>();
        for (int number = 0; number < 8; number++) {
            int i = number;
            all.add(Check.outcome(() -> x.getEnergy(i)));
            all.add(Check.outcome(() -> x.getTemperature(i)));
            all.add(Check.outcome(() -> x.partWork(i)));
            all.add(Check.outcome(() -> x.partHeat(i)));
            all.add(Check.outcome(() -> x.partLost(i)));
            all.add(Check.outcome(() -> x.heatAhead(i)));
            all.add(Check.outcome(() -> x.pressureAhead(i)));
        }
        for (int pressure : PRESSURES) {
            all.add(Check.outcome(() -> x.getBoiling(pressure)));
            all.add(Check.outcome(() -> x.getLiquid(pressure)));
            all.add(Check.outcome(() -> x.getVapour(pressure)));
        }
        for (int step : STEPS) {
            all.add(Check.outcome(() -> x.cardAt(step)));
        }
        all.add(Check.outcome(() -> x.plantWork()));
        all.add(Check.outcome(() -> x.wasEnded()));
        all.add(Check.outcome(() -> x.makingShare()));
        all.add(Check.outcome(() -> x.meanTemperature()));
        all.add(Check.outcome(() -> x.pinch(10)));
        all.add(Arrays.asList(x.getWork(), x.getMade(), x.gasEnergy(), x.gasVolume(), x.gasPressure(), x.checksum()));
        all.add(Arrays.asList(x.heatNeeded(10), x.coldNeeded(10), x.heatNeeded(0), x.coldNeeded(100)));
        all.add(Arrays.asList(x.getValve(), x.countTurns(), x.isTripped(), x.isSound()));
        return all;
    }

    /** All that the face tells, also what only a change shows; some 200 calls. */
    static List<Object> all(Cycleworks x) {
        List<Object> all = still(x);
        all.add(Check.outcome(() -> x.resetTrip()));
        all.add(Arrays.asList(x.runSeconds(1), x.runSeconds(3), x.getValve(), x.countTurns(), x.isTripped()));
        all.add(Arrays.asList(x.setLoad(50), x.setGovernor(1, 2, 3, 4)));
        all.add(Check.outcome(() -> x.runCycles(1)));
        all.add(Check.outcome(() -> x.cardAt(0)));
        all.add(Arrays.asList(x.gasVolume(), x.setGas(2, 50, 400), x.clearStreams()));
        all.add(Check.outcome(() -> x.runCycles(2)));
        all.add(Arrays.asList(x.clearStrokes(), x.gasEnergy()));
        all.add(Check.outcome(() -> x.getEnergy(0)));
        all.add(Check.outcome(() -> x.solve(10, 190)));
        all.add(Check.outcome(() -> x.solve(200, 2709)));
        all.add(Check.outcome(() -> x.partHeat(0)));
        all.add(Arrays.asList(x.clearParts(), x.checksum()));
        all.add(Check.outcome(() -> x.addBody(60, 1)));
        all.add(Check.outcome(() -> x.addRow(1000, 999, 9998, 9999)));
        return all;
    }
}
