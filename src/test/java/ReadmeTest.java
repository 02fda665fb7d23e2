import java.lang.reflect.InvocationTargetException;
import java.lang.reflect.Method;
import java.nio.file.Files;
import java.nio.file.Path;
import java.util.Set;
import java.util.TreeSet;
import java.util.regex.Matcher;
import java.util.regex.Pattern;

/** The lines of use in README.md answer what stands behind them, and leave out no method of the face. */
public final class ReadmeTest {
    private static final Pattern LINE = Pattern.compile("works\\.(\\w+)\\((.*)\\); +// (.+)");

    private ReadmeTest() {
    }

    private static Method method(String name) {
        for (Method method : Cycleworks.class.getDeclaredMethods()) {
            if (method.getName().equals(name)) {
                return method;
            }
        }
        throw new IllegalArgumentException(name);
    }

    private static Object[] numbers(String written) {
        String[] words = written.isEmpty() ? new String[0] : written.split(", ");
        Object[] numbers = new Object[words.length];
        for (int i = 0; i < words.length; i++) {
            numbers[i] = words[i].startsWith("'") ? (Object) words[i].charAt(1) : (Object) Integer.valueOf(words[i]);
        }
        return numbers;
    }

    private static String answer(Cycleworks works, String name, String written) throws IllegalAccessException {
        try {
            Object answer = method(name).invoke(works, numbers(written));
            return answer instanceof Character ? "'" + answer + "'" : answer.toString();
        } catch (InvocationTargetException thrown) {
            return "throws " + thrown.getCause().getClass().getSimpleName();
        }
    }

    public static void main(String[] args) throws Exception {
        Check check = new Check();
        Cycleworks works = new Cycleworks();
        Set<String> left = new TreeSet<>();
        for (Method method : Cycleworks.class.getMethods()) {
            if (method.getDeclaringClass() == Cycleworks.class) {
                left.add(method.getName());
            }
        }
        for (String line : Files.readAllLines(Path.of("README.md"))) {
            if (line.startsWith("works.")) {
                Matcher told = LINE.matcher(line);
                boolean reads = told.matches();
                check.is("README.md reads: " + line, reads, true);
                if (reads) {
                    check.is(line, answer(works, told.group(1), told.group(2)), told.group(3));
                    left.remove(told.group(1));
                }
            }
        }
        check.is("methods that README.md leaves out", left, Set.of());
        check.end();
    }
}
