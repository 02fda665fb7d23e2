/** The sentences on the governor. */
final class GovernorSentences extends Chapter {
    GovernorSentences(Document document, Check check) {
        super(document, check);
    }

    private static Cycleworks with(int set, int gain, int stiction, int limit, int load) {
        Cycleworks x = new Cycleworks();
        x.setGovernor(set, gain, stiction, limit);
        x.setLoad(load);
        return x;
    }

    private static Cycleworks after(Cycleworks x, int seconds) {
        x.runSeconds(seconds);
        return x;
    }

    /** The valve a second behind the speed 1000. */
    private static int valve(int set, int gain, int stiction) {
        return after(with(set, gain, stiction, 5000, 50), 1).getValve();
    }

    /** A valve at 50 that nothing moves, and a trip at 1040. */
    private static Cycleworks tripped() {
        return after(with(1000, 0, 0, 1000, 40), 1);
    }

    /** A governor whose valve is led by as much as is told. */
    private static final class Led {
        private final Cycleworks x = new Cycleworks();
        private int speed = 1000;

        int turnsAfter(int more, int stiction) {
            x.setGovernor(speed + more, 100, stiction, 5000);
            speed = x.runSeconds(1);
            return x.countTurns();
        }
    }

    @Override
    void run() {
        atFirst();
        numbers();
        valves();
        speeds();
        trips();
        turns();
        setting();
        running();
        resetting();
    }

    private void atFirst() {
        of(0);
        says("The speed is 1000 at first, the valve 50, the load 50");
        due(() -> new Cycleworks().runSeconds(1), 1000);
        due(() -> new Cycleworks().runSeconds(500), 1000);
        due(() -> new Cycleworks().getValve(), 50);
        due(() -> new Cycleworks().setLoad(1), 50);
        says("each of both 0 to 100");
        range(Cycleworks::new, 0, 100, (x, n) -> x.setLoad(n), RANGE);
        due(() -> with(0, 0, 0, 5000, 0).setLoad(100), 0);
        due(() -> with(0, 0, 0, 5000, 100).setLoad(0), 100);
        due(() -> valve(3000, 100, 0), 100);
        due(() -> valve(0, 100, 0), 0);
        says("1000, 10, 0 and 3000 at first");
        due(() -> new Cycleworks().setGovernor(0, 0, 0, 0), 1000);
        // 1040 at 50; 40 too fast by 10 hundredths: 1064 at 46; 64 too fast: 40
        Cycleworks x = new Cycleworks();
        due(() -> x.setLoad(40), 50);
        due(() -> x.runSeconds(2), 1064);
        due(() -> x.getValve(), 46);
        due(() -> x.runSeconds(1), 1064);
        due(() -> x.getValve(), 40);
        // 12 too fast by 10 hundredths is 1, which is farther than 0
        Cycleworks y = new Cycleworks();
        due(() -> y.setLoad(47), 50);
        due(() -> y.runSeconds(2), 1012 + 8);
        due(() -> y.getValve(), 49);
        // as fast as set it goes nowhere, not even back by 0: 8 too slow are 0.8
        Cycleworks still = new Cycleworks();
        due(() -> still.runSeconds(500), 1000);
        due(() -> still.setLoad(52), 50);
        due(() -> still.runSeconds(3), 1000 - 8 - 8 - 4);
        due(() -> still.getValve(), 51);
        due(() -> still.countTurns(), 0);
        // without a load it rises to 1320
        Cycleworks z = new Cycleworks();
        due(() -> z.setLoad(0), 50);
        due(() -> z.runSeconds(500), 1320);
        due(() -> z.isTripped(), false);
        // and higher with a valve that a full load has opened: 1080 at 100, 1448 at 92, 1640 at 48, then at 0
        Cycleworks open = new Cycleworks();
        due(() -> open.setLoad(100), 50);
        due(() -> open.runSeconds(500), 680);
        due(() -> open.getValve(), 100);
        due(() -> open.setLoad(0), 100);
        due(() -> open.runSeconds(2), 1448);
        due(() -> open.runSeconds(500), 1640);
        due(() -> open.isTripped(), false);
    }

    private void numbers() {
        says("The governor has a set speed, 0 to 3000");
        range(Cycleworks::new, 0, 3000, (x, n) -> x.setGovernor(n, 10, 0, 3000), RANGE);
        due(() -> with(3000, 1, 0, 5000, 50).setGovernor(0, 0, 0, 0), 3000);
        due(() -> with(0, 1, 0, 5000, 50).setGovernor(0, 0, 0, 0), 0);
        says("a gain, 0 to 100");
        range(Cycleworks::new, 0, 100, (x, n) -> x.setGovernor(1000, n, 0, 3000), RANGE);
        due(() -> valve(1001, 100, 0), 51);
        due(() -> valve(3000, 0, 0), 50);
        says("a stiction, 0 to 50");
        range(Cycleworks::new, 0, 50, (x, n) -> x.setGovernor(1000, 10, n, 3000), RANGE);
        due(() -> valve(1001, 100, 0), 51);
        due(() -> valve(3000, 100, 50), 50);
        says("and a limit, 0 to 5000");
        range(Cycleworks::new, 0, 5000, (x, n) -> x.setGovernor(1000, 10, 0, n), RANGE);
        due(() -> after(with(1000, 0, 0, 0, 50), 1).isTripped(), true);
        // 400 a second with an open valve
        Cycleworks x = after(with(3000, 100, 0, 5000, 0), 1);
        due(() -> x.setGovernor(3000, 0, 0, 5000), 3000);
        due(() -> x.runSeconds(9), 5000);
        due(() -> x.isTripped(), false);
        due(() -> x.setLoad(99), 0);
        due(() -> x.runSeconds(1), 5004);
        due(() -> x.isTripped(), true);
    }

    private void valves() {
        says("In each second the valve would be more by how much the set speed is above the speed, times the gain, "
                + "divided by 100, cut");
        due(() -> valve(1014, 50, 0), 57);
        // 6.5, -6.5, 0.99, -0.99, -0.01
        due(() -> valve(1013, 50, 0), 56);
        due(() -> valve(987, 50, 0), 44);
        due(() -> valve(1001, 99, 0), 50);
        due(() -> valve(999, 99, 0), 50);
        due(() -> valve(999, 1, 0), 50);
        due(() -> valve(1099, 1, 0), 50);
        due(() -> valve(1100, 1, 0), 51);
        due(() -> valve(900, 1, 0), 49);
        due(() -> valve(1000, 100, 0), 50);
        says("but 0 to 100");
        due(() -> valve(1049, 100, 0), 99);
        due(() -> valve(1050, 100, 0), 100);
        due(() -> valve(1051, 100, 0), 100);
        due(() -> valve(951, 100, 0), 1);
        due(() -> valve(950, 100, 0), 0);
        due(() -> valve(949, 100, 0), 0);
        says("it goes there if that is farther away than the stiction");
        due(() -> valve(1005, 100, 5), 50);
        due(() -> valve(1006, 100, 5), 56);
        due(() -> valve(995, 100, 5), 50);
        due(() -> valve(994, 100, 5), 44);
        due(() -> valve(1001, 100, 1), 50);
        due(() -> valve(1049, 100, 49), 50);
        due(() -> valve(1050, 100, 49), 100);
        // 100 and 0 alone are where it would go
        due(() -> valve(3000, 100, 49), 100);
        due(() -> valve(3000, 100, 50), 50);
        due(() -> valve(0, 100, 50), 50);
        Cycleworks x = after(with(1047, 100, 0, 5000, 50), 1);
        due(() -> x.getValve(), 97);
        due(() -> x.setGovernor(3000, 100, 3, 5000), 1047);
        due(() -> after(x, 1).getValve(), 97);
        due(() -> x.setGovernor(3000, 100, 2, 5000), 3000);
        due(() -> after(x, 1).getValve(), 100);
    }

    private void speeds() {
        says("Then the speed is more by 4 times how much the valve, 0 by a trip, is above the load");
        due(() -> with(1000, 0, 0, 5000, 47).runSeconds(1), 1012);
        due(() -> with(1000, 0, 0, 5000, 60).runSeconds(1), 960);
        due(() -> with(1000, 0, 0, 5000, 50).runSeconds(1), 1000);
        // by the valve behind its move
        due(() -> with(1014, 50, 0, 5000, 50).runSeconds(1), 1028);
        due(() -> tripped().isTripped(), true);
        due(() -> tripped().runSeconds(1), 1040 - 160);
        due(() -> tripped().runSeconds(2), 1040 - 320);
        due(() -> after(tripped(), 1).getValve(), 50);
        says("and 0 at least");
        due(() -> with(0, 100, 0, 5000, 50).runSeconds(5), 0);
        due(() -> with(0, 100, 0, 5000, 50).runSeconds(4), 200);
        due(() -> with(0, 100, 0, 5000, 100).runSeconds(2), 200);
        due(() -> with(0, 100, 0, 5000, 100).runSeconds(3), 0);
        due(() -> with(0, 100, 0, 5000, 100).runSeconds(500), 0);
        due(() -> tripped().runSeconds(6), 80);
        due(() -> tripped().runSeconds(7), 0);
    }

    private void trips() {
        says("above the limit it trips, till that is reset");
        due(() -> after(with(1000, 0, 0, 1040, 40), 1).isTripped(), false);
        due(() -> after(with(1000, 0, 0, 1039, 40), 1).isTripped(), true);
        due(() -> after(with(1000, 0, 0, 0, 100), 5).isTripped(), true);
        due(() -> with(1000, 0, 0, 0, 100).isTripped(), false);
        // as slow as 0 it is not above a limit of 0
        Cycleworks still = after(with(0, 100, 0, 5000, 100), 3);
        due(() -> still.setGovernor(0, 100, 0, 0), 0);
        due(() -> still.runSeconds(1), 0);
        due(() -> still.isTripped(), false);
        Cycleworks x = after(tripped(), 500);
        due(() -> x.runSeconds(1), 0);
        due(() -> x.isTripped(), true);
        due(() -> x.setGovernor(1000, 0, 0, 5000), 1000);
        due(() -> x.isTripped(), true);
        due(() -> x.resetTrip(), true);
        due(() -> x.isTripped(), false);
        due(() -> x.runSeconds(1), 40);
        due(() -> x.isTripped(), false);
    }

    private void turns() {
        says("The valve turns as it goes the other way than as it went last");
        Led x = new Led();
        due(() -> x.turnsAfter(5, 0), 0);
        due(() -> x.turnsAfter(5, 0), 0);
        due(() -> x.turnsAfter(0, 0), 0);
        due(() -> x.turnsAfter(-5, 0), 1);
        due(() -> x.turnsAfter(-5, 0), 1);
        due(() -> x.turnsAfter(0, 0), 1);
        due(() -> x.turnsAfter(5, 0), 2);
        // what sticks does not go
        due(() -> x.turnsAfter(-5, 5), 2);
        due(() -> x.turnsAfter(5, 0), 2);
        due(() -> x.turnsAfter(-5, 0), 3);
        due(() -> x.turnsAfter(-5, 5), 3);
        due(() -> x.turnsAfter(-5, 4), 3);
        Led y = new Led();
        due(() -> y.turnsAfter(-5, 0), 0);
        due(() -> y.turnsAfter(-5, 0), 0);
        due(() -> y.turnsAfter(5, 0), 1);
        // an open valve goes nowhere by more
        Led z = new Led();
        due(() -> z.turnsAfter(60, 0), 0);
        due(() -> z.turnsAfter(60, 0), 0);
        due(() -> z.turnsAfter(-60, 0), 1);
        due(() -> z.turnsAfter(-60, 0), 1);
        due(() -> z.turnsAfter(-60, 0), 1);
        due(() -> z.turnsAfter(1, 0), 2);
    }

    private void setting() {
        of(40);
        says("Sets the governor.", "Returns the set speed before.");
        due(() -> new Cycleworks().setGovernor(1234, 1, 2, 3), 1000);
        due(() -> with(1234, 1, 2, 3, 50).setGovernor(1, 1, 1, 1), 1234);
        says("Throws IllegalArgumentException if a number is out of range");
        for (int set : new int[] {-1, 3001}) {
            refuses(GovernorSentences::tripped, x -> x.setGovernor(set, 10, 0, 3000), RANGE);
        }
        for (int gain : new int[] {-1, 101}) {
            refuses(GovernorSentences::tripped, x -> x.setGovernor(1500, gain, 0, 3000), RANGE);
        }
        for (int stiction : new int[] {-1, 51}) {
            refuses(GovernorSentences::tripped, x -> x.setGovernor(1500, 10, stiction, 3000), RANGE);
        }
        for (int limit : new int[] {-1, 5001}) {
            refuses(GovernorSentences::tripped, x -> x.setGovernor(1500, 10, 5, limit), RANGE);
        }
        of(41);
        says("Sets the load.", "Returns the one before.");
        due(() -> new Cycleworks().setLoad(0), 50);
        due(() -> tripped().setLoad(100), 40);
        due(() -> with(1000, 0, 0, 5000, 100).runSeconds(1), 800);
        says("Throws IllegalArgumentException if a number is out of range");
        for (int load : new int[] {LEAST, -1, 101, MOST}) {
            refuses(GovernorSentences::tripped, x -> x.setLoad(load), RANGE);
        }
    }

    private void running() {
        of(42);
        says("Lets seconds go by.", "Returns the speed.");
        due(() -> with(1000, 0, 0, 5000, 47).runSeconds(1), 1012);
        due(() -> with(1000, 0, 0, 5000, 49).runSeconds(500), 3000);
        Cycleworks x = with(1000, 0, 0, 5000, 49);
        due(() -> x.runSeconds(3), 1012);
        due(() -> x.runSeconds(2), 1020);
        says("seconds: 1 to 500");
        range(Cycleworks::new, 1, 500, (y, n) -> y.runSeconds(n), RANGE);
        says("Throws IllegalArgumentException if a number is out of range");
        for (int seconds : new int[] {LEAST, -1, 0, 501, MOST}) {
            refuses(GovernorSentences::tripped, y -> y.runSeconds(seconds), RANGE);
        }
        of(43);
        says("Returns the valve.");
        due(() -> new Cycleworks().getValve(), 50);
        due(() -> valve(1006, 100, 5), 56);
        of(44);
        says("Returns how often the valve turned.", "Returns how often.");
        due(() -> new Cycleworks().countTurns(), 0);
        Led led = new Led();
        due(() -> led.x.setLoad(55), 50);
        for (int turn = 0; turn < 200; turn++) {
            int number = turn;
            due(() -> led.turnsAfter(number % 2 == 0 ? 10 : -10, 0), number);
        }
        of(45);
        says("Returns whether it tripped.", "Returns whether it did, and was not reset.");
        due(() -> new Cycleworks().isTripped(), false);
        due(() -> tripped().isTripped(), true);
        due(() -> after(tripped(), 1).resetTrip(), true);
        due(() -> after(tripped(), 1), y -> y.resetTrip() && y.isTripped(), false);
        // tripped again by another second
        Cycleworks again = after(tripped(), 1);
        due(() -> again.resetTrip(), true);
        due(() -> after(again, 3).isTripped(), false);
        due(() -> again.runSeconds(1), 1040);
        due(() -> again.isTripped(), true);
    }

    /** Due on a fresh object that a second behind a trip at 1040 has another limit. */
    private void resetAt(int limit, Object due) {
        Cycleworks x = tripped();
        x.setGovernor(1000, 0, 0, limit);
        due(() -> x.resetTrip(), due);
    }

    private void resetting() {
        of(46);
        says("Resets the trip.", "Returns whether there was one.");
        due(() -> new Cycleworks().resetTrip(), false);
        due(() -> after(tripped(), 1).resetTrip(), true);
        Cycleworks x = after(tripped(), 1);
        due(() -> x.resetTrip(), true);
        due(() -> x.resetTrip(), false);
        due(() -> x.runSeconds(1), 920);
        says("Throws UnsupportedOperationException if the speed is above the limit");
        refuses(GovernorSentences::tripped, y -> y.resetTrip(), NOT);
        resetAt(1041, true);
        resetAt(1040, true);
        resetAt(1039, NOT);
        resetAt(0, NOT);
        resetAt(5000, true);
        // also without a trip
        refuses(() -> with(1000, 0, 0, 999, 50), y -> y.resetTrip(), NOT);
        due(() -> with(1000, 0, 0, 1000, 50).resetTrip(), false);
    }
}
