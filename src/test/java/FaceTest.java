import java.lang.reflect.Method;
import java.lang.reflect.Modifier;
import java.util.ArrayList;
import java.util.HashSet;
import java.util.List;
import java.util.Set;
import java.util.TreeSet;

/** The public face is the document's, and nothing more. */
public final class FaceTest {
    private static final String[] FACE = {
        "int addBody(int, int) IllegalArgumentException, IllegalStateException",
        "int getTemperature(int) IndexOutOfBoundsException",
        "int getEnergy(int) IndexOutOfBoundsException",
        "int conduct(int, int, int) IndexOutOfBoundsException, IllegalArgumentException, UnsupportedOperationException",
        "int runEngine(int, int, int, int) IndexOutOfBoundsException, IllegalArgumentException, "
            + "UnsupportedOperationException",
        "int runPump(int, int, int, int) IndexOutOfBoundsException, IllegalArgumentException, "
            + "UnsupportedOperationException",
        "int getWork()", "int getMade()",
        "int addRow(int, int, int, int) IllegalArgumentException, UnsupportedOperationException, "
            + "IllegalStateException",
        "int getBoiling(int) NoSuchElementException", "int getLiquid(int) NoSuchElementException",
        "int getVapour(int) NoSuchElementException",
        "char getPhase(int, int) IllegalArgumentException, NoSuchElementException",
        "int getDryness(int, int) IllegalArgumentException, NoSuchElementException",
        "int stateTemperature(int, int) IllegalArgumentException, NoSuchElementException",
        "int addPart(char, int, int) IllegalArgumentException, IllegalStateException", "int clearParts()",
        "int solve(int, int) IllegalArgumentException, IllegalStateException, UnsupportedOperationException, "
            + "NoSuchElementException",
        "int partWork(int) IllegalStateException, NoSuchElementException",
        "int partHeat(int) IllegalStateException, NoSuchElementException",
        "int partLost(int) IllegalStateException, NoSuchElementException",
        "int pressureAhead(int) IllegalStateException, NoSuchElementException",
        "int heatAhead(int) IllegalStateException, NoSuchElementException",
        "int plantWork() IllegalStateException", "int setGas(int, int, int) IllegalArgumentException",
        "int addStroke(char, int, int) IllegalArgumentException, IndexOutOfBoundsException, IllegalStateException",
        "int clearStrokes()", "int runCycles(int) IllegalArgumentException, IllegalStateException",
        "boolean wasEnded() IllegalStateException", "int gasEnergy()", "int gasPressure()", "int gasVolume()",
        "int cardAt(int) NoSuchElementException",
        "int addStream(int, int, int) IllegalArgumentException, IllegalStateException", "int clearStreams()",
        "int heatNeeded(int) IllegalArgumentException", "int coldNeeded(int) IllegalArgumentException",
        "int pinch(int) IllegalArgumentException, NoSuchElementException",
        "int setGovernor(int, int, int, int) IllegalArgumentException", "int setLoad(int) IllegalArgumentException",
        "int runSeconds(int) IllegalArgumentException", "int getValve()", "int countTurns()", "boolean isTripped()",
        "boolean resetTrip() UnsupportedOperationException",
        "char claim(int, int, int, int) IllegalArgumentException",
        "int bestWork(int, int, int) IllegalArgumentException, NoSuchElementException",
        "long checksum()", "float makingShare() ArithmeticException", "double meanTemperature() ArithmeticException",
        "boolean isSound()",
    };

    private FaceTest() {
    }

    private static String list(Class<?>[] types) {
        List<String> names = new ArrayList<>();
        for (Class<?> type : types) {
            names.add(type.getSimpleName());
        }
        return String.join(", ", names);
    }

    private static String told(Method method) {
        String thrown = list(method.getExceptionTypes());
        return method.getReturnType().getSimpleName() + " " + method.getName() + "("
                + list(method.getParameterTypes()) + ")" + (thrown.isEmpty() ? "" : " " + thrown);
    }

    public static void main(String[] args) {
        Check check = new Check();
        Class<?> face = Cycleworks.class;
        check.is("public and final", face.getModifiers(), Modifier.PUBLIC | Modifier.FINAL);
        check.is("constructors", face.getDeclaredConstructors().length, 1);
        check.is("constructor", face.getDeclaredConstructors()[0].toString(), "public Cycleworks()");
        Set<String> seen = new TreeSet<>();
        Set<String> publicNames = new HashSet<>();
        for (Method method : face.getDeclaredMethods()) {
            if (!Modifier.isPrivate(method.getModifiers())) {
                check.is(method + " is public alone", method.getModifiers(), Modifier.PUBLIC);
                seen.add(told(method));
                publicNames.add(method.getName());
            }
        }
        check.is("the face", seen, new TreeSet<>(List.of(FACE)));
        List<Class<?>> all = new ArrayList<>(List.of(face.getDeclaredClasses()));
        all.add(face);
        for (Class<?> one : all) {
            for (Method method : one.getDeclaredMethods()) {
                boolean hidden = one != face || Modifier.isPrivate(method.getModifiers());
                check.is(method + " has a name of its own", hidden && publicNames.contains(method.getName()), false);
            }
            for (java.lang.reflect.Field field : one.getDeclaredFields()) {
                check.is(field + " is private", Modifier.isPrivate(field.getModifiers()), true);
                check.is(field + " is final if static",
                        Modifier.isStatic(field.getModifiers()) && !Modifier.isFinal(field.getModifiers()), false);
            }
        }
        check.end();
    }
}
