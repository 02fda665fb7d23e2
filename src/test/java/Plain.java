import java.math.BigInteger;
import java.util.ArrayList;
import java.util.List;
import java.util.NoSuchElementException;

/**
 * The document once more, as slowly and plainly as it reads: degree by degree, work by work, in numbers without a bound
 * where energies are reckoned; an answer that an int can't tell is told by its low bits.
 * OracleTest compares Cycleworks with it. Methods bear the names of the document's face.
 */
final class Plain {
    private final List<BigInteger[]> bodies = new ArrayList<>(); // capacity, energy
    private BigInteger work = BigInteger.ZERO;
    private long made = 0;
    private int done = 0;
    private int making = 0;
    private final List<long[]> rows = new ArrayList<>(); // pressure, boiling, liquid, vapour
    private final List<Object[]> parts = new ArrayList<>();
    private List<long[]> solved = null; // work, heat, lost, pressure ahead, heat ahead
    private long amount = 1;
    private long volume = 10;
    private BigInteger energy = big(900);
    private final List<Object[]> strokes = new ArrayList<>();
    private Boolean ended = null;
    private final List<BigInteger> card = new ArrayList<>();
    private final List<int[]> streams = new ArrayList<>();
    private int set = 1000;
    private int gain = 10;
    private int stiction = 0;
    private int limit = 3000;
    private int load = 50;
    private int speed = 1000;
    private int valve = 50;
    private int went = 0;
    private int turned = 0;
    private boolean trip = false;

    private static BigInteger big(long number) {
        return BigInteger.valueOf(number);
    }

    /** Cut downward, like Math.floorDiv. */
    private static BigInteger divided(BigInteger number, BigInteger by) {
        BigInteger[] parts = number.divideAndRemainder(by);
        return parts[1].signum() < 0 ? parts[0].subtract(BigInteger.ONE) : parts[0];
    }

    private static boolean isLess(BigInteger one, BigInteger other) {
        return one.compareTo(other) < 0;
    }

    private static void range(long number, long least, long most) {
        if (number < least || number > most) {
            throw new IllegalArgumentException();
        }
    }

    public int addBody(int temperature, int capacity) {
        range(temperature, 50, 2000);
        range(capacity, 1, 1000);
        if (bodies.size() == 8) {
            throw new IllegalStateException();
        }
        bodies.add(new BigInteger[] {big(capacity), big((long) capacity * temperature)});
        return bodies.size() - 1;
    }

    private BigInteger[] body(int number) {
        if (number < 0 || number >= bodies.size()) {
            throw new IndexOutOfBoundsException();
        }
        return bodies.get(number);
    }

    private static BigInteger degrees(BigInteger[] body) {
        return divided(body[1], body[0]);
    }

    private static boolean isCold(BigInteger[] body) {
        return isLess(degrees(body), big(50));
    }

    public int getTemperature(int body) {
        return degrees(body(body)).intValue();
    }

    public int getEnergy(int body) {
        return body(body)[1].intValue();
    }

    private static long makes(long taken, BigInteger hot, long given, BigInteger cold) {
        return divided(big(1000 * given), cold).add(divided(big(-1000 * taken), hot)).longValueExact();
    }

    private int go(int from, int to, long taken, long given, boolean byItself) {
        BigInteger[] a = body(from);
        BigInteger[] b = body(to);
        long makes = makes(taken, degrees(a), given, degrees(b));
        BigInteger[] aBehind = {a[0], a[1].subtract(big(taken))};
        BigInteger[] bBehind = {b[0], b[1].add(big(given))};
        if (byItself) {
            if (isLess(degrees(a), degrees(b)) || isLess(degrees(aBehind), degrees(bBehind))) {
                throw new UnsupportedOperationException();
            }
            makes = Math.max(makes, 0);
        }
        if (makes < 0 || isCold(aBehind)) {
            throw new UnsupportedOperationException();
        }
        bodies.set(from, aBehind);
        bodies.set(to, bBehind);
        work = work.add(big(taken - given));
        made += makes;
        done++;
        making += makes > 0 ? 1 : 0;
        return (int) makes;
    }

    private void pair(int from, int to, int heat) {
        body(from);
        body(to);
        range(from == to ? 0 : 1, 1, 1);
        range(heat, 1, 100000);
    }

    public int conduct(int from, int to, int heat) {
        pair(from, to, heat);
        return go(from, to, heat, heat, true);
    }

    public int runEngine(int from, int to, int heat, int work) {
        pair(from, to, heat);
        range(work, 0, heat);
        return go(from, to, heat, heat - work, false);
    }

    public int runPump(int from, int to, int heat, int work) {
        pair(from, to, heat);
        range(work, 0, 100000);
        return go(from, to, heat, heat + work, false);
    }

    public int getWork() {
        return work.intValue();
    }

    public int getMade() {
        return (int) made;
    }

    public int addRow(int pressure, int boiling, int liquid, int vapour) {
        range(pressure, 1, 1000);
        range(boiling, 50, 999);
        range(liquid, 0, 9999);
        range(vapour, 0, 9999);
        boolean greater = vapour > liquid;
        for (long[] row : rows) {
            greater &= pressure > row[0] && boiling > row[1] && liquid > row[2];
        }
        if (!greater) {
            throw new UnsupportedOperationException();
        }
        if (rows.size() == 8) {
            throw new IllegalStateException();
        }
        rows.add(new long[] {pressure, boiling, liquid, vapour});
        return rows.size();
    }

    private long reckon(int column, long pressure) {
        for (long[] row : rows) {
            if (row[0] == pressure) {
                return row[column];
            }
        }
        for (int row = 0; row + 1 < rows.size(); row++) {
            long[] low = rows.get(row);
            long[] high = rows.get(row + 1);
            if (low[0] < pressure && pressure < high[0]) {
                long difference = high[column] - low[column];
                long part = Math.abs(difference) * (pressure - low[0]) / (high[0] - low[0]);
                return difference < 0 ? low[column] - part : low[column] + part;
            }
        }
        throw new NoSuchElementException();
    }

    public int getBoiling(int pressure) {
        return (int) reckon(1, pressure);
    }

    public int getLiquid(int pressure) {
        return (int) reckon(2, pressure);
    }

    public int getVapour(int pressure) {
        return (int) reckon(3, pressure);
    }

    public char getPhase(int pressure, int heat) {
        range(heat, 0, 20000);
        return heat < reckon(2, pressure) ? 'l' : heat > reckon(3, pressure) ? 'v' : 'w';
    }

    public int getDryness(int pressure, int heat) {
        char phase = getPhase(pressure, heat);
        if (phase != 'w') {
            return phase == 'l' ? 0 : 1000;
        }
        long liquid = reckon(2, pressure);
        return (int) ((heat - liquid) * 1000 / (reckon(3, pressure) - liquid));
    }

    public int stateTemperature(int pressure, int heat) {
        char phase = getPhase(pressure, heat);
        long boiling = reckon(1, pressure);
        if (phase == 'l') {
            boiling -= (reckon(2, pressure) - heat) / 4;
        }
        if (phase == 'v') {
            boiling += (heat - reckon(3, pressure)) / 2;
        }
        return (int) Math.max(boiling, 1);
    }

    public int addPart(char kind, int to, int quality) {
        range("phtcv".indexOf(kind), 0, 4);
        if (kind != 'c') {
            range(to, 1, kind == 'h' ? 9999 : 1000);
        }
        if (kind == 't') {
            range(quality, 0, 100);
        }
        if (parts.size() == 8) {
            throw new IllegalStateException();
        }
        parts.add(new Object[] {kind, to, quality});
        return parts.size();
    }

    public int clearParts() {
        int before = parts.size();
        parts.clear();
        solved = null;
        return before;
    }

    /** What a part does: work, heat, lost, pressure ahead, heat ahead, pressure behind, heat behind. */
    private long[] through(Object[] part, int pressure, int heat) {
        char kind = (Character) part[0];
        int to = (Integer) part[1];
        long did = 0;
        long got = 0;
        long lost = 0;
        if (kind == 'h') {
            got = to;
        }
        if (kind == 'c') {
            got = reckon(2, pressure) - heat;
            if (got > 0) {
                throw new UnsupportedOperationException();
            }
        }
        if (kind == 'p' ? to <= pressure : (kind == 't' || kind == 'v') && to >= pressure) {
            throw new UnsupportedOperationException();
        }
        if (kind == 'p') {
            did = -((to - pressure) / 10);
        }
        if (kind == 't') {
            long ahead = stateTemperature(pressure, heat);
            long above = Math.max(heat - reckon(2, to), 0);
            long warmer = Math.max(ahead - reckon(1, to), 0);
            long could = above * warmer / ahead;
            did = could * (Integer) part[2] / 100;
            lost = could - did;
        }
        int behind = kind == 'h' || kind == 'c' ? pressure : to;
        reckon(1, behind);
        long heatBehind = heat + got - did;
        if (heatBehind > 20000) {
            throw new UnsupportedOperationException();
        }
        return new long[] {did, got, lost, pressure, heat, behind, heatBehind};
    }

    private int rounds(int pressure, int heat) {
        int p = pressure;
        int h = heat;
        reckon(1, p);
        for (int round = 1; round <= 60; round++) {
            int pAhead = p;
            int hAhead = h;
            List<long[]> round0 = new ArrayList<>();
            for (Object[] part : parts) {
                long[] step = through(part, p, h);
                round0.add(step);
                p = (int) step[5];
                h = (int) step[6];
            }
            if (p == pAhead && h == hAhead) {
                solved = round0;
                return round;
            }
        }
        return 0;
    }

    public int solve(int pressure, int heat) {
        range(heat, 0, 20000);
        if (parts.isEmpty()) {
            throw new IllegalStateException();
        }
        int round;
        try {
            round = rounds(pressure, heat);
        } catch (NoSuchElementException beyondTheRows) {
            throw new UnsupportedOperationException();
        }
        if (round == 0) {
            throw new NoSuchElementException();
        }
        return round;
    }

    private int told(int part, int what) {
        if (solved == null) {
            throw new IllegalStateException();
        }
        if (part < 0 || part >= solved.size()) {
            throw new NoSuchElementException();
        }
        return (int) solved.get(part)[what];
    }

    public int partWork(int part) {
        return told(part, 0);
    }

    public int partHeat(int part) {
        return told(part, 1);
    }

    public int partLost(int part) {
        return told(part, 2);
    }

    public int pressureAhead(int part) {
        return told(part, 3);
    }

    public int heatAhead(int part) {
        return told(part, 4);
    }

    public int plantWork() {
        if (solved == null) {
            throw new IllegalStateException();
        }
        long sum = 0;
        for (long[] step : solved) {
            sum += step[0];
        }
        return (int) sum;
    }

    public int setGas(int amount, int volume, int temperature) {
        range(amount, 1, 20);
        range(volume, 1, 100);
        range(temperature, 50, 2000);
        int before = energy.intValue();
        this.amount = amount;
        this.volume = volume;
        energy = big(3L * amount * temperature);
        return before;
    }

    public int addStroke(char kind, int volume, int body) {
        range("aiv".indexOf(kind), 0, 2);
        if (kind != 'v') {
            range(volume, 1, 100);
        }
        if (kind != 'a') {
            body(body);
        }
        if (strokes.size() == 8) {
            throw new IllegalStateException();
        }
        strokes.add(new Object[] {kind, volume, body});
        return strokes.size();
    }

    public int clearStrokes() {
        int before = strokes.size();
        strokes.clear();
        return before;
    }

    /** One step out (1), in (-1) or neither (0); false if the run ends ahead of it. */
    private boolean step(int out, char kind, int number) {
        BigInteger pressure = pressure();
        BigInteger done = pressure.multiply(big(out));
        BigInteger behind = energy.subtract(done);
        if (kind != 'a') {
            BigInteger[] body = body(number);
            BigInteger lacks = degrees(body).multiply(big(3 * amount)).subtract(behind);
            BigInteger[] left = {body[0], body[1].subtract(lacks)};
            behind = behind.add(lacks);
            if (isCold(left) || behind.signum() <= 0) {
                return false;
            }
            bodies.set(number, left);
        }
        if (behind.signum() <= 0) {
            return false;
        }
        card.add(pressure);
        energy = behind;
        volume += out;
        work = work.add(done);
        return true;
    }

    private boolean stroke(Object[] stroke) {
        char kind = (Character) stroke[0];
        int number = (Integer) stroke[2];
        if (kind == 'v') {
            return step(0, kind, number);
        }
        int goal = (Integer) stroke[1];
        while (volume < goal) {
            if (!step(1, kind, number)) {
                return false;
            }
        }
        while (volume > goal) {
            if (!step(-1, kind, number)) {
                return false;
            }
        }
        return true;
    }

    public int runCycles(int many) {
        range(many, 1, 10);
        if (strokes.isEmpty()) {
            throw new IllegalStateException();
        }
        BigInteger before = work;
        card.clear();
        ended = false;
        for (int cycle = 0; cycle < many; cycle++) {
            for (Object[] stroke : strokes) {
                ended = ended || !stroke(stroke);
            }
        }
        return work.subtract(before).intValue();
    }

    public boolean wasEnded() {
        if (ended == null) {
            throw new IllegalStateException();
        }
        return ended;
    }

    public int gasEnergy() {
        return energy.intValue();
    }

    private BigInteger pressure() {
        return divided(energy.multiply(big(2)), big(3 * volume));
    }

    public int gasPressure() {
        return pressure().intValue();
    }

    public int gasVolume() {
        return (int) volume;
    }

    public int cardAt(int index) {
        if (index < 0 || index >= card.size() || index >= 300) {
            throw new NoSuchElementException();
        }
        return card.get(index).intValue();
    }

    public int addStream(int from, int to, int flow) {
        range(from, 50, 999);
        range(to, 50, 999);
        range(flow, 1, 50);
        range(from == to ? 0 : 1, 1, 1);
        if (streams.size() == 10) {
            throw new IllegalStateException();
        }
        streams.add(new int[] {from, to, flow});
        return streams.size();
    }

    public int clearStreams() {
        int before = streams.size();
        streams.clear();
        return before;
    }

    /** The sums behind each degree down, from that of 999 to 998 on, as far as one of -60 to -61. */
    private int[] degreeByDegree(int approach) {
        range(approach, 0, 100);
        int[] sums = new int[1060];
        int sum = 0;
        for (int top = 999; top > -61; top--) {
            for (int[] stream : streams) {
                int from = stream[0];
                int to = stream[1];
                if (from > to && top <= from - approach && top - 1 >= to - approach) {
                    sum += stream[2];
                }
                if (from < to && top <= to && top - 1 >= from) {
                    sum -= stream[2];
                }
            }
            sums[999 - top] = sum;
        }
        return sums;
    }

    public int heatNeeded(int approach) {
        int needed = 0;
        for (int sum : degreeByDegree(approach)) {
            needed = Math.max(needed, -sum);
        }
        return needed;
    }

    public int coldNeeded(int approach) {
        return degreeByDegree(approach)[1059] + heatNeeded(approach);
    }

    public int pinch(int approach) {
        int[] sums = degreeByDegree(approach);
        int needed = heatNeeded(approach);
        for (int index = 0; index < sums.length && needed > 0; index++) {
            if (sums[index] + needed == 0) {
                return 998 - index;
            }
        }
        throw new NoSuchElementException();
    }

    public int setGovernor(int set, int gain, int stiction, int limit) {
        range(set, 0, 3000);
        range(gain, 0, 100);
        range(stiction, 0, 50);
        range(limit, 0, 5000);
        int before = this.set;
        this.set = set;
        this.gain = gain;
        this.stiction = stiction;
        this.limit = limit;
        return before;
    }

    public int setLoad(int load) {
        range(load, 0, 100);
        int before = this.load;
        this.load = load;
        return before;
    }

    public int runSeconds(int seconds) {
        range(seconds, 1, 500);
        for (int second = 0; second < seconds; second++) {
            int goal = valve + (set - speed) * gain / 100;
            goal = goal < 0 ? 0 : goal > 100 ? 100 : goal;
            if (goal - valve > stiction || valve - goal > stiction) {
                int goes = Integer.signum(goal - valve);
                turned += went != 0 && went != goes ? 1 : 0;
                went = goes;
                valve = goal;
            }
            speed += 4 * (trip ? 0 - load : valve - load);
            speed = speed < 0 ? 0 : speed;
            trip |= speed > limit;
        }
        return speed;
    }

    public int getValve() {
        return valve;
    }

    public int countTurns() {
        return turned;
    }

    public boolean isTripped() {
        return trip;
    }

    public boolean resetTrip() {
        if (speed > limit) {
            throw new UnsupportedOperationException();
        }
        boolean before = trip;
        trip = false;
        return before;
    }

    private static void claimRange(int heat, int hot, int cold) {
        range(heat, 1, 100000);
        range(hot, 50, 2000);
        range(cold, 50, Math.min(2000, hot - 1));
    }

    public char claim(int heat, int hot, int cold, int work) {
        claimRange(heat, hot, cold);
        range(work, 0, 200000);
        return work > heat ? 'e' : makes(heat, big(hot), heat - work, big(cold)) < 0 ? 'd' : '-';
    }

    public int bestWork(int heat, int hot, int cold) {
        claimRange(heat, hot, cold);
        for (int best = heat; best >= 0; best--) {
            if (claim(heat, hot, cold, best) == '-') {
                return best;
            }
        }
        throw new NoSuchElementException();
    }

    public long checksum() {
        BigInteger sum = big(7);
        for (BigInteger[] body : bodies) {
            sum = sum.multiply(big(31)).add(body[1]);
        }
        for (BigInteger part : new BigInteger[] {work, big(made), energy, big(speed)}) {
            sum = sum.multiply(big(31)).add(part);
        }
        return sum.longValue();
    }

    public float makingShare() {
        if (done == 0) {
            throw new ArithmeticException();
        }
        return (float) making / (float) done;
    }

    public double meanTemperature() {
        if (bodies.isEmpty()) {
            throw new ArithmeticException();
        }
        BigInteger sum = BigInteger.ZERO;
        for (BigInteger[] body : bodies) {
            sum = sum.add(degrees(body));
        }
        return sum.doubleValue() / (double) bodies.size();
    }

    public boolean isSound() {
        return true;
    }
}
