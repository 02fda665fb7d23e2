import java.lang.reflect.InvocationTargetException;
import java.lang.reflect.Method;
import java.util.ArrayDeque;
import java.util.Arrays;
import java.util.Comparator;
import java.util.Deque;
import java.util.List;
import java.util.Random;

/** Calls of the face with chosen numbers, most of them near what has a meaning; a seed always gives the same ones. */
final class RandomCalls {
    private static final int[] WILD = {
        Integer.MIN_VALUE, Integer.MIN_VALUE + 1, -100001, -1, 0, 1, 2, 7, 8, 9, 10, 11, 20, 21, 49, 50, 51, 100, 101,
        299, 300, 301, 500, 501, 999, 1000, 1001, 2000, 2001, 3000, 5000, 5001, 9999, 10000, 20000, 20001, 100000,
        100001, 200000, 200001, Integer.MAX_VALUE - 1, Integer.MAX_VALUE,
    };
    private static final Method[] FACE = face();

    private final Random random;
    private int kindOfRun;
    /** Calls that come first: their method's name, then their numbers. */
    private final Deque<Object[]> planned = new ArrayDeque<>();
    private Object[] current = null;

    RandomCalls(long seed) {
        random = new Random(seed);
        kindOfRun = random.nextInt(9);
        if (kindOfRun == 2 || kindOfRun == 6) {
            planPlant();
        }
        if (kindOfRun == 3 || kindOfRun == 7) {
            planCylinder();
        }
        if (kindOfRun == 8) {
            planHeap();
        }
    }

    private void plan(String name, Object... numbers) {
        Object[] call = new Object[numbers.length + 1];
        call[0] = name;
        System.arraycopy(numbers, 0, call, 1, numbers.length);
        planned.add(call);
    }

    /** A table, and rings that mostly come back to the pressure at which they begin. */
    private void planPlant() {
        int rows = within(2, 8);
        int pressure = within(1, 30);
        int boiling = within(50, 300);
        int liquid = within(0, 500);
        for (int row = 0; row < rows; row++) {
            plan("addRow", pressure, boiling, liquid, liquid + within(1, 3000));
            pressure += within(1, 100);
            boiling += within(1, 80);
            liquid += within(1, 400);
        }
        for (int ring = 0; ring < 6; ring++) {
            planRing(within(1, pressure), within(1, pressure));
        }
    }

    private void planRing(int one, int other) {
        int low = Math.min(one, other);
        int high = Math.max(one, other);
        int quality = random.nextInt(3) == 0 ? 100 : within(0, 100);
        plan("addPart", 'p', high, within(-5, 200));
        for (int heaters = random.nextInt(3); heaters > 0; heaters--) {
            plan("addPart", 'h', within(1, random.nextBoolean() ? 60 : 3000), 0);
        }
        if (random.nextBoolean()) {
            plan("addPart", "tv".charAt(random.nextInt(2)), within(low, high), within(0, 100));
        }
        plan("addPart", random.nextInt(4) == 0 ? 'v' : 't', low, quality);
        if (random.nextInt(3) > 0) {
            plan("addPart", 'c', within(-9, 9), 0);
        }
        plan("solve", low, within(0, random.nextBoolean() ? 1000 : 20000));
        for (int part = 0; part < 6; part++) {
            for (String what : List.of("partWork", "partHeat", "partLost", "pressureAhead", "heatAhead")) {
                plan(what, part);
            }
        }
        plan("plantWork");
        plan("isSound");
        plan(random.nextInt(5) == 0 ? "getWork" : "clearParts");
    }

    private void planCylinder() {
        int bodies = within(1, 4);
        for (int body = 0; body < bodies; body++) {
            plan("addBody", within(50, 2000), within(1, random.nextInt(3) == 0 ? 10 : 1000));
        }
        for (int set = 0; set < 5; set++) {
            plan("setGas", within(1, 20), within(1, 100), within(50, 2000));
            for (int stroke = within(1, 8); stroke > 0; stroke--) {
                plan("addStroke", "aiv".charAt(random.nextInt(3)), within(1, 100), within(0, bodies - 1));
            }
            for (int run = within(1, 4); run > 0; run--) {
                plan("runCycles", within(1, 10));
                plan("wasEnded");
                for (int mark : List.of(0, 1, within(2, 297), 298, 299, 300)) {
                    plan("cardAt", mark);
                }
            }
            plan("checksum");
            plan("clearStrokes");
        }
    }

    /** Strokes that heap up energy beyond every int and mostly every long, and fresh gases that take it down again. */
    private void planHeap() {
        int bodies = within(1, 3);
        for (int body = 0; body < bodies; body++) {
            plan("addBody", within(50, 2000), within(60, random.nextBoolean() ? 150 : 1000));
        }
        for (int heap = within(1, 2); heap > 0; heap--) {
            plan("setGas", within(1, 20), 100, within(50, 2000));
            for (int body : random.nextBoolean() ? List.of(0) : List.of(0, bodies - 1)) {
                plan("addStroke", 'a', within(1, 3), 0);
                plan("addStroke", 'v', 0, within(0, bodies - 1));
                plan("addStroke", 'i', within(70, 100), body);
            }
            for (int run = within(1, 25); run > 0; run--) {
                plan("runCycles", within(6, 10));
                planMoves(bodies);
            }
            plan("clearStrokes");
            plan("addStroke", 'v', 0, within(0, bodies - 1));
            plan("addStroke", 'a', 100, 0);
            plan("addStroke", 'v', 0, within(0, bodies - 1));
            for (int run = within(1, 60); run > 0; run--) {
                plan("setGas", within(1, 20), within(1, 100), within(50, 2000));
                plan("runCycles", within(1, 2));
                planMoves(bodies);
            }
            plan("clearStrokes");
        }
    }

    /** What bodies do and tell between two runs of a cylinder. */
    private void planMoves(int bodies) {
        plan("wasEnded");
        plan("checksum");
        plan("meanTemperature");
        String[] chosen = {"conduct", "runEngine", "runPump", "getTemperature", "getEnergy", "cardAt", "gasPressure",
            "gasEnergy", "getWork", "getMade"};
        for (int more = 0; more < 3; more++) {
            String name = chosen[random.nextInt(chosen.length)];
            Object[] numbers = meant(named(name));
            for (int i = 0; i < numbers.length && (i < 2 || name.equals("cardAt")); i++) {
                numbers[i] = within(0, name.equals("cardAt") ? 300 : bodies - 1);
            }
            plan(name, numbers);
        }
        plan("checksum");
        plan("isSound");
    }

    boolean hasPlanned() {
        return !planned.isEmpty();
    }

    static Method[] face() {
        Method[] all = Cycleworks.class.getMethods();
        Method[] own = Arrays.stream(all).filter(m -> m.getDeclaringClass() == Cycleworks.class)
                .toArray(Method[]::new);
        Arrays.sort(own, Comparator.comparing(Method::getName));
        return own;
    }

    /** A method of the face; a run prefers one chapter of the document. */
    Method method() {
        current = planned.poll();
        if (current != null) {
            return named((String) current[0]);
        }
        String[] chapters = {
            "addBody conduct runEngine runPump getEnergy getTemperature getMade makingShare meanTemperature",
            "addRow getBoiling getLiquid getVapour getPhase getDryness stateTemperature",
            "addRow addPart addPart solve solve partWork partHeat partLost heatAhead pressureAhead plantWork clearParts",
            "addBody setGas addStroke addStroke runCycles runCycles cardAt wasEnded gasEnergy gasPressure clearStrokes",
            "addStream addStream heatNeeded coldNeeded pinch clearStreams claim bestWork",
            "setGovernor setLoad runSeconds runSeconds getValve countTurns isTripped resetTrip checksum",
        };
        if (random.nextInt(4) == 0) {
            return FACE[random.nextInt(FACE.length)];
        }
        String[] names = chapters[kindOfRun % 6].split(" ");
        return named(names[random.nextInt(names.length)]);
    }

    private static Method named(String name) {
        return Arrays.stream(FACE).filter(m -> m.getName().equals(name)).findFirst().orElseThrow();
    }

    private int within(int least, int most) {
        return least + random.nextInt(most - least + 1);
    }

    private char kind(String kinds) {
        return random.nextInt(25) == 0 ? (char) random.nextInt(256) : kinds.charAt(random.nextInt(kinds.length()));
    }

    /** Numbers for a method, one in twenty of them wild. */
    Object[] arguments(Method method) {
        if (current != null) {
            return Arrays.copyOfRange(current, 1, current.length);
        }
        Object[] numbers = meant(method);
        for (int i = 0; i < numbers.length; i++) {
            if (numbers[i] instanceof Integer && random.nextInt(20) == 0) {
                numbers[i] = WILD[random.nextInt(WILD.length)];
            }
        }
        return numbers;
    }

    private Object[] meant(Method method) {
        int body = within(0, 3);
        int heat = within(1, random.nextBoolean() ? 500 : 100000);
        int cold = within(50, 2000);
        switch (method.getName()) {
            case "addBody": return new Object[] {within(50, 2000), within(1, random.nextBoolean() ? 10 : 1000)};
            case "getTemperature": case "getEnergy": return new Object[] {body};
            case "conduct": return new Object[] {body, within(0, 3), heat};
            case "runEngine": return new Object[] {body, within(0, 3), heat, within(0, heat / within(1, 9))};
            case "runPump": return new Object[] {body, within(0, 3), heat, within(0, 5000)};
            case "addRow": {
                int rank = within(1, 30);
                int liquid = 100 * rank + within(0, 150);
                return new Object[] {20 * rank + within(0, 10), 50 + 25 * rank, liquid, liquid + within(1, 4000)};
            }
            case "getBoiling": case "getLiquid": case "getVapour": return new Object[] {within(1, 650)};
            case "getPhase": case "getDryness": case "stateTemperature": case "solve":
                return new Object[] {within(1, 650), within(0, random.nextInt(5) == 0 ? 20000 : 6000)};
            case "addPart": {
                char kind = kind("phtcv");
                return new Object[] {kind, kind == 'h' ? within(1, 4000) : 20 * within(1, 32), within(0, 100)};
            }
            case "partWork": case "partHeat": case "partLost": case "heatAhead": case "pressureAhead":
                return new Object[] {within(0, 5)};
            case "setGas": return new Object[] {within(1, 20), within(1, 100), within(50, 2000)};
            case "addStroke": return new Object[] {kind("aiv"), within(1, 100), body};
            case "runCycles": return new Object[] {within(1, 10)};
            case "cardAt": return new Object[] {within(0, 310)};
            case "addStream": return new Object[] {within(50, 999), within(50, 999), within(1, 50)};
            case "heatNeeded": case "coldNeeded": case "pinch": return new Object[] {within(0, 100)};
            case "setGovernor":
                return new Object[] {within(0, 3000), within(0, 100), within(0, 50), within(0, 5000)};
            case "setLoad": return new Object[] {within(0, 100)};
            case "runSeconds": return new Object[] {within(1, random.nextBoolean() ? 5 : 500)};
            case "claim": return new Object[] {heat, within(cold, 2000), cold, within(0, heat)};
            case "bestWork": return new Object[] {within(1, 300), within(cold, 2000), cold};
            default: return new Object[0];
        }
    }

    /** What a call answers, or the class of what it throws. */
    static Object outcome(Object object, Method method, Object[] numbers) {
        try {
            return method.invoke(object, numbers);
        } catch (InvocationTargetException thrown) {
            return thrown.getCause().getClass();
        } catch (IllegalAccessException hidden) {
            throw new IllegalStateException(hidden);
        }
    }
}
