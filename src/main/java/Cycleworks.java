import java.util.Arrays;
import java.util.NoSuchElementException;

/** Heat made into work and back: bodies, vapours, a plant, a cylinder, streams, a governor and claims. */
public final class Cycleworks {
    private static final int LEAST_TEMPERATURE = 50;
    private static final int MOST_TEMPERATURE = 2000;
    private static final int MOST_DEGREES = 999;
    private static final int MOST_HEAT = 100000;
    private static final int MOST_CLAIMED = 200000;
    private static final int MOST_STATE_HEAT = 20000;
    private static final int MOST_PRESSURE = 1000;
    private static final int MOST_ROW_HEAT = 9999;
    /** Above 1000 times any heat that is moved. */
    private static final int MOST_DIVISOR = 1 << 30;

    private final Bodies bodies = new Bodies();
    private final Table table = new Table();
    private final Ring ring = new Ring();
    private final Cylinder cylinder = new Cylinder();
    private final Streams streams = new Streams();
    private final Governor governor = new Governor();
    private final Sums sums = new Sums();

    public Cycleworks() {
        sums.putIn = cylinder.energy.low();
    }

    // ---- bodies ----

    public int addBody(int temperature, int capacity) throws IllegalArgumentException, IllegalStateException {
        if (isOutside(temperature, LEAST_TEMPERATURE, MOST_TEMPERATURE) || isOutside(capacity, 1, 1000)) {
            throw new IllegalArgumentException("a number is out of range");
        }
        if (bodies.isFull()) {
            throw new IllegalStateException("there are 8 bodies");
        }
        sums.putIn += temperature * capacity;
        return bodies.append(temperature, capacity);
    }

    public int getTemperature(int body) throws IndexOutOfBoundsException {
        requireBody(body);
        return (int) bodies.temperatureOf(body).low();
    }

    public int getEnergy(int body) throws IndexOutOfBoundsException {
        requireBody(body);
        return (int) bodies.energyOf(body).low();
    }

    public int conduct(int from, int to, int heat)
            throws IndexOutOfBoundsException, IllegalArgumentException, UnsupportedOperationException {
        requireTwoBodies(from, to, heat);
        if (!bodies.bears(from, heat) || !bodies.flowsByItself(from, to, heat)) {
            throw new UnsupportedOperationException("heat does not go to the hotter by itself");
        }
        return move(from, heat, to, heat, Math.max(0, bodies.disorderOfMove(from, heat, to, heat)));
    }

    public int runEngine(int from, int to, int heat, int work)
            throws IndexOutOfBoundsException, IllegalArgumentException, UnsupportedOperationException {
        requireTwoBodies(from, to, heat);
        if (isOutside(work, 0, heat)) {
            throw new IllegalArgumentException("the work is out of range");
        }
        return move(from, heat, to, heat - work, bodies.disorderOfMove(from, heat, to, heat - work));
    }

    public int runPump(int from, int to, int heat, int work)
            throws IndexOutOfBoundsException, IllegalArgumentException, UnsupportedOperationException {
        requireTwoBodies(from, to, heat);
        if (isOutside(work, 0, MOST_HEAT)) {
            throw new IllegalArgumentException("the work is out of range");
        }
        return move(from, heat, to, heat + work, bodies.disorderOfMove(from, heat, to, heat + work));
    }

    public int getWork() {
        return (int) sums.work;
    }

    public int getMade() {
        return sums.made;
    }

    // ---- vapours ----

    public int addRow(int pressure, int boiling, int liquid, int vapour)
            throws IllegalArgumentException, UnsupportedOperationException, IllegalStateException {
        if (isOutside(pressure, 1, MOST_PRESSURE) || isOutside(boiling, LEAST_TEMPERATURE, MOST_DEGREES)
                || isOutside(liquid, 0, MOST_ROW_HEAT) || isOutside(vapour, 0, MOST_ROW_HEAT)) {
            throw new IllegalArgumentException("a number is out of range");
        }
        if (vapour <= liquid || !table.isBelow(pressure, boiling, liquid)) {
            throw new UnsupportedOperationException("a number is not greater");
        }
        if (table.isFull()) {
            throw new IllegalStateException("there are 8 rows");
        }
        return table.append(pressure, boiling, liquid, vapour);
    }

    public int getBoiling(int pressure) throws NoSuchElementException {
        requireRows(pressure);
        return table.boilingAt(pressure);
    }

    public int getLiquid(int pressure) throws NoSuchElementException {
        requireRows(pressure);
        return table.liquidAt(pressure);
    }

    public int getVapour(int pressure) throws NoSuchElementException {
        requireRows(pressure);
        return table.vapourAt(pressure);
    }

    public char getPhase(int pressure, int heat) throws IllegalArgumentException, NoSuchElementException {
        requireState(pressure, heat);
        return table.phaseOf(pressure, heat);
    }

    public int getDryness(int pressure, int heat) throws IllegalArgumentException, NoSuchElementException {
        requireState(pressure, heat);
        return table.drynessOf(pressure, heat);
    }

    public int stateTemperature(int pressure, int heat) throws IllegalArgumentException, NoSuchElementException {
        requireState(pressure, heat);
        return table.temperatureOf(pressure, heat);
    }

    // ---- plants ----

    public int addPart(char kind, int to, int quality) throws IllegalArgumentException, IllegalStateException {
        if (!Ring.isPart(kind, to, quality)) {
            throw new IllegalArgumentException("there is no such part");
        }
        if (ring.isFull()) {
            throw new IllegalStateException("there are 8 parts");
        }
        return ring.append(kind, to, quality);
    }

    public int clearParts() {
        return ring.removeAll();
    }

    public int solve(int pressure, int heat)
            throws IllegalArgumentException, IllegalStateException, UnsupportedOperationException,
            NoSuchElementException {
        requireStateHeat(heat);
        if (ring.isEmpty()) {
            throw new IllegalStateException("there are no parts");
        }
        int round = ring.close(table, pressure, heat);
        if (round == Ring.REFUSED) {
            throw new UnsupportedOperationException("the ring is refused");
        }
        if (round == Ring.OPEN) {
            throw new NoSuchElementException("the ring does not close");
        }
        return round;
    }

    public int partWork(int part) throws IllegalStateException, NoSuchElementException {
        requireSolvedPart(part);
        return ring.solved.workOf(part);
    }

    public int partHeat(int part) throws IllegalStateException, NoSuchElementException {
        requireSolvedPart(part);
        return ring.solved.heatOf(part);
    }

    public int partLost(int part) throws IllegalStateException, NoSuchElementException {
        requireSolvedPart(part);
        return ring.solved.lostOf(part);
    }

    public int pressureAhead(int part) throws IllegalStateException, NoSuchElementException {
        requireSolvedPart(part);
        return ring.solved.pressureAheadOf(part);
    }

    public int heatAhead(int part) throws IllegalStateException, NoSuchElementException {
        requireSolvedPart(part);
        return ring.solved.heatAheadOf(part);
    }

    public int plantWork() throws IllegalStateException {
        requireSolved();
        return ring.solved.sumOfWork();
    }

    // ---- cylinders ----

    public int setGas(int amount, int volume, int temperature) throws IllegalArgumentException {
        if (isOutside(amount, 1, 20) || isOutside(volume, 1, Cylinder.MOST_VOLUME)
                || isOutside(temperature, LEAST_TEMPERATURE, MOST_TEMPERATURE)) {
            throw new IllegalArgumentException("a number is out of range");
        }
        long before = cylinder.energy.low();
        cylinder.fill(amount, volume, temperature);
        sums.putIn += cylinder.energy.low() - before;
        return (int) before;
    }

    public int addStroke(char kind, int volume, int body)
            throws IllegalArgumentException, IndexOutOfBoundsException, IllegalStateException {
        if (!Cylinder.isStroke(kind, volume)) {
            throw new IllegalArgumentException("there is no such stroke");
        }
        if (Cylinder.needsBody(kind)) {
            requireBody(body);
        }
        if (cylinder.isFull()) {
            throw new IllegalStateException("there are 8 strokes");
        }
        return cylinder.append(kind, volume, body);
    }

    public int clearStrokes() {
        return cylinder.removeAll();
    }

    public int runCycles(int many) throws IllegalArgumentException, IllegalStateException {
        if (isOutside(many, 1, 10)) {
            throw new IllegalArgumentException("a number is out of range");
        }
        if (cylinder.isEmpty()) {
            throw new IllegalStateException("there are no strokes");
        }
        long workBefore = sums.work;
        cylinder.beginRun();
        for (int cycle = 0; cycle < many; cycle++) {
            for (int stroke = 0; stroke < cylinder.count; stroke++) {
                cylinder.runStroke(stroke, bodies, sums);
            }
        }
        return (int) (sums.work - workBefore);
    }

    public boolean wasEnded() throws IllegalStateException {
        if (!cylinder.ran) {
            throw new IllegalStateException("there was no run");
        }
        return cylinder.ended;
    }

    public int gasEnergy() {
        return (int) cylinder.energy.low();
    }

    public int gasPressure() {
        return (int) cylinder.pressureNow().low();
    }

    public int gasVolume() {
        return cylinder.volume;
    }

    public int cardAt(int index) throws NoSuchElementException {
        if (!cylinder.hasMark(index)) {
            throw new NoSuchElementException("the card has no such step");
        }
        return cylinder.markAt(index);
    }

    // ---- streams ----

    public int addStream(int from, int to, int flow) throws IllegalArgumentException, IllegalStateException {
        if (isOutside(from, LEAST_TEMPERATURE, MOST_DEGREES) || isOutside(to, LEAST_TEMPERATURE, MOST_DEGREES)
                || isOutside(flow, 1, 50) || from == to) {
            throw new IllegalArgumentException("a number is out of range");
        }
        if (streams.isFull()) {
            throw new IllegalStateException("there are 10 streams");
        }
        return streams.append(from, to, flow);
    }

    public int clearStreams() {
        return streams.removeAll();
    }

    public int heatNeeded(int approach) throws IllegalArgumentException {
        requireApproach(approach);
        return streams.leastHeat(approach);
    }

    public int coldNeeded(int approach) throws IllegalArgumentException {
        requireApproach(approach);
        return streams.leastCold(approach);
    }

    public int pinch(int approach) throws IllegalArgumentException, NoSuchElementException {
        requireApproach(approach);
        if (streams.leastHeat(approach) == 0) {
            throw new NoSuchElementException("no heat is needed");
        }
        return streams.narrowest(approach);
    }

    // ---- governors ----

    public int setGovernor(int set, int gain, int stiction, int limit) throws IllegalArgumentException {
        if (isOutside(set, 0, 3000) || isOutside(gain, 0, 100) || isOutside(stiction, 0, 50)
                || isOutside(limit, 0, 5000)) {
            throw new IllegalArgumentException("a number is out of range");
        }
        int before = governor.set;
        governor.adjust(set, gain, stiction, limit);
        return before;
    }

    public int setLoad(int load) throws IllegalArgumentException {
        if (isOutside(load, 0, 100)) {
            throw new IllegalArgumentException("a number is out of range");
        }
        int before = governor.load;
        governor.load = load;
        return before;
    }

    public int runSeconds(int seconds) throws IllegalArgumentException {
        if (isOutside(seconds, 1, 500)) {
            throw new IllegalArgumentException("a number is out of range");
        }
        for (int second = 0; second < seconds; second++) {
            governor.passSecond();
        }
        return governor.speed;
    }

    public int getValve() {
        return governor.valve;
    }

    public int countTurns() {
        return governor.turns;
    }

    public boolean isTripped() {
        return governor.tripped;
    }

    public boolean resetTrip() throws UnsupportedOperationException {
        if (governor.speed > governor.limit) {
            throw new UnsupportedOperationException("the speed is above the limit");
        }
        boolean before = governor.tripped;
        governor.tripped = false;
        return before;
    }

    // ---- claims ----

    public char claim(int heat, int hot, int cold, int work) throws IllegalArgumentException {
        requireClaim(heat, hot, cold);
        if (isOutside(work, 0, MOST_CLAIMED)) {
            throw new IllegalArgumentException("the work is out of range");
        }
        if (work > heat) {
            return 'e';
        }
        return disorderMade(heat, hot, heat - work, cold) < 0 ? 'd' : '-';
    }

    public int bestWork(int heat, int hot, int cold) throws IllegalArgumentException, NoSuchElementException {
        requireClaim(heat, hot, cold);
        // the least heat given whose disorder, cut, still reaches that of the heat taken
        int given = dividedUp(dividedUp(1000 * heat, hot) * cold, 1000);
        if (given > heat) {
            throw new NoSuchElementException("every claim is refused");
        }
        return heat - given;
    }

    // ---- sums over all ----

    public long checksum() {
        long sum = 7;
        for (int body = 0; body < bodies.count; body++) {
            sum = 31 * sum + bodies.energyOf(body).low();
        }
        sum = 31 * sum + sums.work;
        sum = 31 * sum + sums.made;
        sum = 31 * sum + cylinder.energy.low();
        return 31 * sum + governor.speed;
    }

    public float makingShare() throws ArithmeticException {
        if (sums.moves == 0) {
            throw new ArithmeticException("there were no heats, engines and pumps");
        }
        return (float) sums.makingMoves / (float) sums.moves;
    }

    public double meanTemperature() throws ArithmeticException {
        if (bodies.count == 0) {
            throw new ArithmeticException("there are no bodies");
        }
        return bodies.sumOfTemperatures().toDouble() / (double) bodies.count;
    }

    public boolean isSound() {
        return bodies.lowOfEnergies() + cylinder.energy.low() + sums.work == sums.putIn
                && bodies.areWarm() && sums.made >= 0
                && (!ring.isSolved || ring.solved.sumOfWork() == ring.solved.sumOfHeat());
    }

    // ---- what several calls need ----

    private static boolean isOutside(int number, int least, int most) {
        return number < least || number > most;
    }

    private void requireBody(int body) {
        if (!bodies.has(body)) {
            throw new IndexOutOfBoundsException("there is no such body");
        }
    }

    private void requireTwoBodies(int from, int to, int heat) {
        requireBody(from);
        requireBody(to);
        if (from == to) {
            throw new IllegalArgumentException("both bodies are the same");
        }
        if (isOutside(heat, 1, MOST_HEAT)) {
            throw new IllegalArgumentException("the heat is out of range");
        }
    }

    /** Takes a heat from a body, gives one to another, and makes work of the rest, or refuses that. */
    private int move(int from, int taken, int to, int given, int disorder) {
        if (disorder < 0 || !bodies.bears(from, taken)) {
            throw new UnsupportedOperationException("it may not run so");
        }
        bodies.take(from, taken);
        bodies.take(to, -given);
        sums.addWork(taken - given);
        sums.addMove(disorder);
        return disorder;
    }

    private void requireRows(int pressure) {
        if (!table.reaches(pressure)) {
            throw new NoSuchElementException("the pressure is beyond the rows");
        }
    }

    private void requireStateHeat(int heat) {
        if (isOutside(heat, 0, MOST_STATE_HEAT)) {
            throw new IllegalArgumentException("the heat is out of range");
        }
    }

    private void requireState(int pressure, int heat) {
        requireStateHeat(heat);
        requireRows(pressure);
    }

    private void requireSolved() {
        if (!ring.isSolved) {
            throw new IllegalStateException("no state was solved");
        }
    }

    private void requireSolvedPart(int part) {
        requireSolved();
        if (!ring.solved.has(part)) {
            throw new NoSuchElementException("there was no such part");
        }
    }

    private void requireApproach(int approach) {
        if (isOutside(approach, 0, 100)) {
            throw new IllegalArgumentException("the approach is out of range");
        }
    }

    private void requireClaim(int heat, int hot, int cold) {
        if (isOutside(heat, 1, MOST_HEAT) || isOutside(hot, LEAST_TEMPERATURE, MOST_TEMPERATURE)
                || isOutside(cold, LEAST_TEMPERATURE, MOST_TEMPERATURE) || cold >= hot) {
            throw new IllegalArgumentException("a number is out of range");
        }
    }

    /** A number of 0 or more divided by one above 0, rounded up. */
    private static int dividedUp(int number, int by) {
        if (by < 1) {
            return 0;
        }
        int cut = number / by;
        return cut * by < number ? cut + 1 : cut;
    }

    private static int dividedDown(int number, int by) {
        return by < 1 ? 0 : number / by;
    }

    /** A heat is so small that a temperature beyond the greatest divisor divides it as that one does. */
    private static int disorderMade(int taken, long hot, int given, long cold) {
        int divisorOfTaken = (int) Math.min(hot, MOST_DIVISOR);
        int divisorOfGiven = (int) Math.min(cold, MOST_DIVISOR);
        return dividedDown(1000 * given, divisorOfGiven) - dividedUp(1000 * taken, divisorOfTaken);
    }

    /** What is summed up over all calls. */
    private static final class Sums {
        /** Beyond a long only the low bits of a work, and of what was put in, are ever told or held against others. */
        private long work = 0;
        private int made = 0;
        private int moves = 0;
        private int makingMoves = 0;
        /** All energy that bodies and the gas began with, what setGas replaced being taken out again. */
        private long putIn = 0;

        void addWork(long more) {
            work += more;
        }

        void addMove(int disorder) {
            made += disorder;
            moves++;
            if (disorder > 0) {
                makingMoves++;
            }
        }
    }

    /** A whole number of 0 or more, without a bound: what strokes heap up leaves every int and long. */
    private static final class Whole {
        /** So few that a digit times any capacity is a long. */
        private static final int BITS = 50;
        private static final long BASE = 1L << BITS;
        /** Twice what 512 calls of 10 cycles can need: of 8 strokes 4 lead in, each of which adds 4 bits at most. */
        private static final int MOST_DIGITS = 4096;

        /** The lowest digit, nearly always the only one; the others stand behind it. */
        private long first = 0;
        private long[] others = new long[1];
        private int count = 0;

        private long digitAt(int place) {
            if (place <= 0 || place >= count || place > others.length) {
                return place == 0 ? first : 0;
            }
            return others[place - 1];
        }

        private void write(int place, long digit) {
            if (place == 0) {
                first = digit;
            } else if (place > 0 && place <= others.length) {
                others[place - 1] = digit;
            }
        }

        private void makeRoom(int places) {
            if (places > others.length + 1 && others.length < MOST_DIGITS) {
                others = Arrays.copyOf(others, Math.min(2 * places, MOST_DIGITS));
            }
        }

        private void endAt(int places) {
            int last = (places <= others.length ? places : others.length + 1) - 1;
            while (last > 0 && last <= others.length && others[last - 1] == 0) {
                last--;
            }
            count = last > 0 || first != 0 ? last + 1 : 0;
        }

        void set(long number) {
            first = number & (BASE - 1);
            count = first == 0 ? 0 : 1;
            if (number >= BASE) {
                write(1, number >> BITS);
                count = 2;
            }
        }

        /** Adds a number, which may be below 0; the sum may not. */
        void add(long number) {
            if (count <= 1) {
                set(first + number);
                return;
            }
            int places = count + 1;
            makeRoom(places);
            long carry = number;
            for (int place = 0; place < places; place++) {
                long sum = digitAt(place) + carry;
                write(place, sum & (BASE - 1));
                carry = sum >> BITS;
            }
            endAt(places);
        }

        void copy(Whole other) {
            set(0);
            setSum(this, other, 1);
        }

        /** Becomes a number of times another one. */
        void setTimes(Whole other, int times) {
            set(0);
            setSum(this, other, times);
        }

        /** Becomes one and a number of times another, which may be below 0; the sum may not. */
        void setSum(Whole one, Whole other, int times) {
            if (one.count <= 1 && other.count <= 1) {
                set(one.first + times * other.first);
                return;
            }
            int places = Math.max(one.count, other.count) + 1;
            makeRoom(places);
            long carry = 0;
            for (int place = 0; place < places; place++) {
                long sum = one.digitAt(place) + times * other.digitAt(place) + carry;
                write(place, sum & (BASE - 1));
                carry = sum >> BITS;
            }
            endAt(places);
        }

        /** Becomes one divided by a number above 0, cut. */
        void setQuotient(Whole one, int by) {
            if (by < 1 || one.count <= 1) {
                set(by < 1 ? 0 : one.first / by);
                return;
            }
            int places = one.count;
            makeRoom(places);
            long rest = 0;
            for (int place = places - 1; place >= 0; place--) {
                long whole = rest * BASE + one.digitAt(place);
                write(place, whole / by);
                rest = whole % by;
            }
            endAt(places);
        }

        boolean isZero() {
            return count == 0;
        }

        boolean isBelow(Whole other) {
            if (count != other.count) {
                return count < other.count;
            }
            int place = count - 1;
            while (place > 0 && digitAt(place) == other.digitAt(place)) {
                place--;
            }
            return digitAt(place) < other.digitAt(place);
        }

        /** The number, or one that is greater than all that heats and capacities are held against. */
        long capped() {
            return count > 1 ? BASE : first;
        }

        /** The number as a long tells it: its low bits. */
        long low() {
            return count > 1 ? first + (digitAt(1) << BITS) : first;
        }

        private int countBits() {
            return count == 0 ? 0 : (count - 1) * BITS + 64 - Long.numberOfLeadingZeros(digitAt(count - 1));
        }

        /** The nearest double: of all bits behind the first 62 only whether there is one matters. */
        double toDouble() {
            long leading = 0;
            double unit = 1;
            for (int bit = countBits() - 1; bit >= 0; bit--) {
                long value = (digitAt(bit / BITS) >> (bit % BITS)) & 1;
                if (leading < 1L << 61) {
                    leading = 2 * leading + value;
                } else {
                    leading = leading | value;
                    unit = 2 * unit;
                }
            }
            return (double) leading * unit;
        }
    }

    /** Bodies with their capacities and energies. */
    private static final class Bodies {
        private static final int MOST = 8;

        private final int[] capacities = new int[MOST];
        private final Whole[] energies = new Whole[MOST];
        private int count = 0;
        private final Whole nothing = new Whole();
        private final Whole degrees = new Whole();
        private final Whole otherDegrees = new Whole();
        private final Whole share = new Whole();
        private final Whole rest = new Whole();

        boolean isFull() {
            return count >= MOST;
        }

        boolean has(int body) {
            return body >= 0 && body < count && body < MOST;
        }

        int append(int temperature, int capacity) {
            if (isFull()) {
                return -1;
            }
            capacities[count] = capacity;
            energies[count] = new Whole();
            energies[count].set(temperature * capacity);
            return count++;
        }

        Whole energyOf(int body) {
            Whole energy = has(body) ? energies[body] : null;
            return energy == null ? nothing : energy;
        }

        private int capacityOf(int body) {
            return has(body) ? capacities[body] : 1;
        }

        /** The temperature, till another one is reckoned. */
        Whole temperatureOf(int body) {
            degrees.setQuotient(energyOf(body), capacityOf(body));
            return degrees;
        }

        private boolean isWarm(int body, Whole energy, int taken) {
            return energy.capped() - taken >= LEAST_TEMPERATURE * capacityOf(body);
        }

        /** Whether a body stays warm when it loses a heat. */
        boolean bears(int body, int taken) {
            return has(body) && isWarm(body, energyOf(body), taken);
        }

        /** Whether heat flows, by itself, from a body that bears it. */
        boolean flowsByItself(int from, int to, int heat) {
            return isAsWarm(from, to, 0) && isAsWarm(from, to, heat);
        }

        /** Whether a body is no colder than another one behind it gave it a heat. */
        private boolean isAsWarm(int body, int other, int given) {
            degrees.copy(energyOf(body));
            degrees.add(-given);
            degrees.setQuotient(degrees, capacityOf(body));
            otherDegrees.copy(energyOf(other));
            otherDegrees.add(given);
            otherDegrees.setQuotient(otherDegrees, capacityOf(other));
            return !degrees.isBelow(otherDegrees);
        }

        int disorderOfMove(int from, int taken, int to, int given) {
            return disorderMade(taken, temperatureOf(from).capped(), given, temperatureOf(to).capped());
        }

        void take(int body, int heat) {
            if (has(body)) {
                energyOf(body).add(-heat);
            }
        }

        /** Gives a gas the energy of a body's temperature, from the body; false, without that, if it got too cold. */
        boolean exchange(int body, int capacityOfGas, Whole gas) {
            Whole energy = energyOf(body);
            share.setTimes(temperatureOf(body), capacityOfGas);
            rest.setSum(energy, gas, 1);
            if (rest.isBelow(share)) {
                return false;
            }
            rest.setSum(rest, share, -1);
            if (!has(body) || !isWarm(body, rest, 0)) {
                return false;
            }
            energy.copy(rest);
            gas.copy(share);
            return true;
        }

        /** The sum of all energies, as a long tells it. */
        long lowOfEnergies() {
            long sum = 0;
            for (int body = 0; body < count; body++) {
                sum += energyOf(body).low();
            }
            return sum;
        }

        /** The sum, till another one is reckoned. */
        Whole sumOfTemperatures() {
            rest.set(0);
            for (int body = 0; body < count; body++) {
                rest.setSum(rest, temperatureOf(body), 1);
            }
            return rest;
        }

        boolean areWarm() {
            boolean warm = true;
            for (int body = 0; body < count; body++) {
                warm = warm && isWarm(body, energyOf(body), 0);
            }
            return warm;
        }
    }

    /** Rows of vapours, between which is reckoned. */
    private static final class Table {
        private static final int MOST = 8;

        private final int[] pressures = new int[MOST];
        private final int[] boilings = new int[MOST];
        private final int[] liquids = new int[MOST];
        private final int[] vapours = new int[MOST];
        private int count = 0;

        boolean isFull() {
            return count >= MOST;
        }

        /** Whether the last row is below a further one in all that must grow. */
        boolean isBelow(int pressure, int boiling, int liquid) {
            int last = count - 1;
            return last < 0 || last >= MOST
                    || pressure > pressures[last] && boiling > boilings[last] && liquid > liquids[last];
        }

        int append(int pressure, int boiling, int liquid, int vapour) {
            if (!isFull()) {
                pressures[count] = pressure;
                boilings[count] = boiling;
                liquids[count] = liquid;
                vapours[count] = vapour;
                count++;
            }
            return count;
        }

        boolean reaches(int pressure) {
            return count > 0 && count <= MOST && pressure >= pressures[0] && pressure <= pressures[count - 1];
        }

        int boilingAt(int pressure) {
            return valueAt(boilings, pressure);
        }

        int liquidAt(int pressure) {
            return valueAt(liquids, pressure);
        }

        int vapourAt(int pressure) {
            return valueAt(vapours, pressure);
        }

        private int valueAt(int[] column, int pressure) {
            int row = 0;
            while (row < count && row < MOST && pressures[row] < pressure) {
                row++;
            }
            if (row >= count || row >= MOST) {
                return 0;
            }
            int lower = row - 1;
            int gap = lower < 0 ? 0 : pressures[row] - pressures[lower];
            if (gap < 1 || pressures[row] == pressure) {
                return column[row];
            }
            return column[lower] + (column[row] - column[lower]) * (pressure - pressures[lower]) / gap;
        }

        char phaseOf(int pressure, int heat) {
            if (heat < valueAt(liquids, pressure)) {
                return 'l';
            }
            return heat > valueAt(vapours, pressure) ? 'v' : 'w';
        }

        int drynessOf(int pressure, int heat) {
            int liquid = valueAt(liquids, pressure);
            int vapour = valueAt(vapours, pressure);
            if (heat < liquid) {
                return 0;
            }
            if (heat > vapour || vapour <= liquid) {
                return 1000;
            }
            return 1000 * (heat - liquid) / (vapour - liquid);
        }

        int temperatureOf(int pressure, int heat) {
            int boiling = valueAt(boilings, pressure);
            int liquid = valueAt(liquids, pressure);
            int vapour = valueAt(vapours, pressure);
            int temperature = boiling;
            if (heat < liquid) {
                temperature = boiling - (liquid - heat) / 4;
            } else if (heat > vapour) {
                temperature = boiling + (heat - vapour) / 2;
            }
            return temperature < 1 ? 1 : temperature;
        }
    }

    /** What the parts of a ring did in one round. */
    private static final class Round {
        private final int[] works = new int[Ring.MOST];
        private final int[] heats = new int[Ring.MOST];
        private final int[] losses = new int[Ring.MOST];
        private final int[] pressuresAhead = new int[Ring.MOST];
        private final int[] heatsAhead = new int[Ring.MOST];
        private int count = 0;

        boolean has(int part) {
            return part >= 0 && part < count && part < Ring.MOST;
        }

        void begin() {
            count = 0;
        }

        /** Writes the state ahead of the next part, which has done nothing yet. */
        void open(int pressure, int heat) {
            if (count < Ring.MOST) {
                works[count] = 0;
                heats[count] = 0;
                losses[count] = 0;
                pressuresAhead[count] = pressure;
                heatsAhead[count] = heat;
                count++;
            }
        }

        void writeWork(int work, int lost) {
            int part = count - 1;
            if (has(part)) {
                works[part] = work;
                losses[part] = lost;
            }
        }

        void writeHeat(int heat) {
            int part = count - 1;
            if (has(part)) {
                heats[part] = heat;
            }
        }

        int workOf(int part) {
            return has(part) ? works[part] : 0;
        }

        int heatOf(int part) {
            return has(part) ? heats[part] : 0;
        }

        int lostOf(int part) {
            return has(part) ? losses[part] : 0;
        }

        int pressureAheadOf(int part) {
            return has(part) ? pressuresAhead[part] : 0;
        }

        int heatAheadOf(int part) {
            return has(part) ? heatsAhead[part] : 0;
        }

        int sumOfWork() {
            int sum = 0;
            for (int part = 0; part < count; part++) {
                sum += workOf(part);
            }
            return sum;
        }

        int sumOfHeat() {
            int sum = 0;
            for (int part = 0; part < count; part++) {
                sum += heatOf(part);
            }
            return sum;
        }
    }

    /** Parts through which a state goes round by round. */
    private static final class Ring {
        private static final int MOST = 8;
        private static final int MOST_ROUNDS = 60;
        private static final int OPEN = 0;
        private static final int REFUSED = -1;

        private final char[] kinds = new char[MOST];
        private final int[] goals = new int[MOST];
        private final int[] qualities = new int[MOST];
        private int count = 0;
        private boolean isSolved = false;
        private Round solved = new Round();
        private Round trial = new Round();
        private int pressure = 0;
        private int heat = 0;

        static boolean isPart(char kind, int to, int quality) {
            if (kind == 'h') {
                return !isOutside(to, 1, MOST_ROW_HEAT);
            }
            if (kind == 't') {
                return !isOutside(to, 1, MOST_PRESSURE) && !isOutside(quality, 0, 100);
            }
            return kind == 'c' || (kind == 'p' || kind == 'v') && !isOutside(to, 1, MOST_PRESSURE);
        }

        boolean isFull() {
            return count >= MOST;
        }

        boolean isEmpty() {
            return count == 0;
        }

        int append(char kind, int to, int quality) {
            if (!isFull()) {
                kinds[count] = kind;
                goals[count] = to;
                qualities[count] = kind == 't' ? quality : 0;
                count++;
            }
            return count;
        }

        int removeAll() {
            int before = count;
            count = 0;
            isSolved = false;
            return before;
        }

        /** The round in which a state closes, or OPEN, or REFUSED; only a closed one is kept. */
        int close(Table table, int firstPressure, int firstHeat) {
            if (!table.reaches(firstPressure)) {
                return REFUSED;
            }
            pressure = firstPressure;
            heat = firstHeat;
            for (int round = 1; round <= MOST_ROUNDS; round++) {
                int pressureBefore = pressure;
                int heatBefore = heat;
                if (!goRound(table)) {
                    return REFUSED;
                }
                if (pressure == pressureBefore && heat == heatBefore) {
                    keepTrial();
                    return round;
                }
            }
            return OPEN;
        }

        private void keepTrial() {
            Round other = solved;
            solved = trial;
            trial = other;
            isSolved = true;
        }

        private boolean goRound(Table table) {
            trial.begin();
            for (int part = 0; part < count && part < MOST; part++) {
                trial.open(pressure, heat);
                if (!goThrough(kinds[part], goals[part], qualities[part], table)) {
                    return false;
                }
            }
            return true;
        }

        /** Leads the state through a part; false where it is refused. */
        private boolean goThrough(char kind, int goal, int quality, Table table) {
            if (kind == 'h') {
                return warm(goal);
            }
            if (kind == 'c') {
                return cool(table.liquidAt(pressure));
            }
            if (!table.reaches(goal)) {
                return false;
            }
            if (kind == 'p') {
                return goUp(goal);
            }
            return goDown(goal, kind == 't' ? possibleWork(goal, table) : 0, quality);
        }

        private boolean warm(int given) {
            trial.writeHeat(given);
            heat += given;
            return heat <= MOST_STATE_HEAT;
        }

        private boolean cool(int goalHeat) {
            return goalHeat <= heat && warm(goalHeat - heat);
        }

        private boolean goUp(int goal) {
            if (goal <= pressure) {
                return false;
            }
            int rise = (goal - pressure) / 10;
            trial.writeWork(-rise, 0);
            pressure = goal;
            heat += rise;
            return heat <= MOST_STATE_HEAT;
        }

        private boolean goDown(int goal, int possible, int quality) {
            if (goal >= pressure) {
                return false;
            }
            int work = possible * quality / 100;
            trial.writeWork(work, possible - work);
            pressure = goal;
            heat -= work;
            return true;
        }

        private int possibleWork(int goal, Table table) {
            int ahead = table.temperatureOf(pressure, heat);
            int above = heat - table.liquidAt(goal);
            int fall = ahead - table.boilingAt(goal);
            return above <= 0 || fall <= 0 || ahead < 1 ? 0 : above * fall / ahead;
        }
    }

    /** A gas, and the strokes that it is led through. */
    private static final class Cylinder {
        private static final int MOST = 8;
        private static final int MOST_VOLUME = 100;
        private static final int MOST_MARKS = 300;
        private static final int NO_BODY = -1;

        private final char[] kinds = new char[MOST];
        private final int[] goals = new int[MOST];
        private final int[] partners = new int[MOST];
        private int count = 0;
        private int amount;
        private int volume;
        private Whole energy = new Whole();
        private Whole energyBehind = new Whole();
        private final Whole pressure = new Whole();
        private final int[] card = new int[MOST_MARKS];
        private int marks = 0;
        private boolean ran = false;
        private boolean ended = false;

        Cylinder() {
            fill(1, 10, 300);
        }

        static boolean isStroke(char kind, int volume) {
            return kind == 'v' || (kind == 'a' || kind == 'i') && !isOutside(volume, 1, MOST_VOLUME);
        }

        static boolean needsBody(char kind) {
            return kind != 'a';
        }

        void fill(int newAmount, int newVolume, int temperature) {
            amount = newAmount;
            volume = newVolume;
            energy.set(3 * newAmount * temperature);
        }

        boolean isFull() {
            return count >= MOST;
        }

        boolean isEmpty() {
            return count == 0;
        }

        int append(char kind, int goal, int body) {
            if (!isFull()) {
                kinds[count] = kind;
                goals[count] = goal;
                partners[count] = needsBody(kind) ? body : NO_BODY;
                count++;
            }
            return count;
        }

        int removeAll() {
            int before = count;
            count = 0;
            return before;
        }

        /** The pressure, till another one is reckoned. */
        Whole pressureNow() {
            pressure.setTimes(energy, 2);
            pressure.setQuotient(pressure, 3 * volume);
            return pressure;
        }

        boolean hasMark(int index) {
            return index >= 0 && index < marks && index < MOST_MARKS;
        }

        int markAt(int index) {
            return hasMark(index) ? card[index] : 0;
        }

        void beginRun() {
            ran = true;
            ended = false;
            marks = 0;
        }

        /** Goes on with a run by a stroke, unless it was ended. */
        void runStroke(int stroke, Bodies bodies, Sums sums) {
            if (ended || stroke < 0 || stroke >= count || stroke >= MOST) {
                return;
            }
            int partner = partners[stroke];
            if (kinds[stroke] == 'v') {
                ended = !step(0, partner, bodies, sums);
                return;
            }
            int goal = goals[stroke];
            for (int done = 0; done < MOST_VOLUME && volume != goal && !ended; done++) {
                ended = !step(volume < goal ? 1 : -1, partner, bodies, sums);
            }
        }

        /** Goes one step, out by 1, in by -1, neither by 0; false, without any of it, if the run must end. */
        private boolean step(int way, int partner, Bodies bodies, Sums sums) {
            Whole ahead = pressureNow();
            energyBehind.setSum(energy, ahead, -way);
            boolean goesOn = partner == NO_BODY ? !energyBehind.isZero()
                    : bodies.exchange(partner, 3 * amount, energyBehind);
            if (!goesOn) {
                return false;
            }
            mark((int) ahead.low());
            sums.addWork(way * ahead.low());
            volume += way;
            Whole before = energy;
            energy = energyBehind;
            energyBehind = before;
            return true;
        }

        private void mark(int pressureTold) {
            if (marks < MOST_MARKS) {
                card[marks] = pressureTold;
                marks++;
            }
        }
    }

    /** Hot and cold streams. */
    private static final class Streams {
        private static final int MOST = 10;

        private final int[] starts = new int[MOST];
        private final int[] ends = new int[MOST];
        private final int[] flows = new int[MOST];
        private int count = 0;

        boolean isFull() {
            return count >= MOST;
        }

        int append(int from, int to, int flow) {
            if (!isFull()) {
                starts[count] = from;
                ends[count] = to;
                flows[count] = flow;
                count++;
            }
            return count;
        }

        int removeAll() {
            int before = count;
            count = 0;
            return before;
        }

        int leastHeat(int approach) {
            return -sumAt(narrowest(approach), approach);
        }

        int leastCold(int approach) {
            return sumAt(-approach, approach) + leastHeat(approach);
        }

        /** The highest temperature down to which the sum is least; only where a stream begins or ends can it be. */
        int narrowest(int approach) {
            int best = MOST_DEGREES + 1;
            int least = 0;
            for (int end = 0; end < 2 * MOST; end++) {
                int stream = end / 2;
                if (stream < count) {
                    int temperature = (end % 2 == 0 ? starts[stream] : ends[stream]) - shiftOf(stream, approach);
                    int sum = sumAt(temperature, approach);
                    if (sum < least || sum == least && temperature > best) {
                        best = temperature;
                        least = sum;
                    }
                }
            }
            return best;
        }

        private boolean isHot(int stream) {
            return starts[stream] > ends[stream];
        }

        private int shiftOf(int stream, int approach) {
            return isHot(stream) ? approach : 0;
        }

        /** What hot streams give down to a temperature, less what cold ones take. */
        private int sumAt(int temperature, int approach) {
            int sum = 0;
            for (int stream = 0; stream < count && stream < MOST; stream++) {
                int shift = shiftOf(stream, approach);
                int high = Math.max(starts[stream], ends[stream]) - shift;
                int low = Math.min(starts[stream], ends[stream]) - shift;
                int heat = flows[stream] * Math.max(0, high - Math.max(low, temperature));
                sum += isHot(stream) ? heat : -heat;
            }
            return sum;
        }
    }

    /** A speed that a valve holds against a load. */
    private static final class Governor {
        private int set = 1000;
        private int gain = 10;
        private int stiction = 0;
        private int limit = 3000;
        private int load = 50;
        private int speed = 1000;
        private int valve = 50;
        private int lastWay = 0;
        private int turns = 0;
        private boolean tripped = false;

        void adjust(int newSet, int newGain, int newStiction, int newLimit) {
            set = newSet;
            gain = newGain;
            stiction = newStiction;
            limit = newLimit;
        }

        void passSecond() {
            int wanted = Math.max(0, Math.min(100, valve + (set - speed) * gain / 100));
            if (Math.abs(wanted - valve) > stiction) {
                moveValve(wanted);
            }
            int open = tripped ? 0 : valve;
            speed = Math.max(0, speed + 4 * (open - load));
            if (speed > limit) {
                tripped = true;
            }
        }

        private void moveValve(int wanted) {
            int way = wanted > valve ? 1 : -1;
            if (way == -lastWay) {
                turns++;
            }
            lastWay = way;
            valve = wanted;
        }
    }
}
