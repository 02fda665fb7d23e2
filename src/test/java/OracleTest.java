import java.lang.reflect.Method;
import java.util.Arrays;

/** Random runs of calls on Cycleworks and on the plain reading of the document must agree. */
public final class OracleTest {
    private static final int RUNS = 6000;
    private static final int CALLS = 120;

    private OracleTest() {
    }

    public static void main(String[] args) throws Exception {
        Check check = new Check();
        int wrongRuns = 0;
        for (int run = 0; run < RUNS && wrongRuns < 5; run++) {
            RandomCalls calls = new RandomCalls(run);
            Cycleworks x = new Cycleworks();
            Plain plain = new Plain();
            for (int call = 0; call < CALLS || calls.hasPlanned(); call++) {
                Method method = calls.method();
                Object[] numbers = calls.arguments(method);
                Object due = RandomCalls.outcome(plain,
                        Plain.class.getMethod(method.getName(), method.getParameterTypes()), numbers);
                Object got = RandomCalls.outcome(x, method, numbers);
                check.is("run " + run + ", call " + call + ": " + method.getName() + Arrays.toString(numbers), got, due);
                if (!due.equals(got)) {
                    wrongRuns++;
                    break;
                }
            }
            check.is("run " + run + ": checksum", x.checksum(), plain.checksum());
            check.is("run " + run + ": isSound", x.isSound(), true);
        }
        check.end();
    }
}
