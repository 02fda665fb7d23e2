import java.lang.reflect.Method;
import java.util.Arrays;
import java.util.List;

/**
 * Whatever is called, however long: a call throws only what its line of the face names, one that throws changes
 * nothing, and all stays sound, even where the document's own numbers would outgrow the face.
 */
public final class WildTest {
    private WildTest() {
    }

    private static void randomRuns(Check check) {
        for (int run = 0; run < 1500; run++) {
            RandomCalls calls = new RandomCalls(1000000L + run);
            Cycleworks x = new Cycleworks();
            for (int call = 0; call < 512; call++) {
                Method method = calls.method();
                Object[] numbers = calls.arguments(method);
                List<Object> before = call % 8 == 0 ? Told.still(x) : null;
                Object got = RandomCalls.outcome(x, method, numbers);
                if (got instanceof Class) {
                    String what = "run " + run + ", call " + call + ": " + method.getName() + Arrays.toString(numbers);
                    check.is(what + " throws what is documented: " + got,
                            Arrays.asList(method.getExceptionTypes()).contains(got), true);
                    if (before != null) {
                        check.is(what + " changes nothing", Told.still(x), before);
                    }
                }
            }
            check.is("run " + run + ": isSound", x.isSound(), true);
        }
    }

    /** Compresses, warms a body, expands and cools again: energy grows without an end. */
    private static void growth(Check check, int capacity, int amount) {
        Cycleworks x = new Cycleworks();
        x.addBody(2000, capacity);
        x.addBody(50, 1000);
        x.setGas(amount, 100, 2000);
        for (int twice = 0; twice < 2; twice++) {
            x.addStroke('a', 1, 0);
            x.addStroke('v', 0, twice);
            x.addStroke('a', 100, 0);
            x.addStroke('v', 0, 0);
        }
        for (int call = 0; call < 100; call++) {
            Check.outcome(() -> x.runCycles(10));
            Check.outcome(() -> x.conduct(0, 1, 100000));
            Check.outcome(() -> x.conduct(1, 0, 100000));
            Check.outcome(() -> x.runPump(1, 0, 100000, 100000));
            Check.outcome(() -> x.runEngine(0, 1, 100000, 1));
            check.is("growth stays sound", x.isSound(), true);
        }
    }

    public static void main(String[] args) {
        Check check = new Check();
        randomRuns(check);
        for (int capacity : new int[] {1, 2, 50, 300, 1000}) {
            for (int amount : new int[] {1, 7, 20}) {
                growth(check, capacity, amount);
            }
        }
        check.end();
    }
}
