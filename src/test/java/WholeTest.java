import java.lang.reflect.Constructor;
import java.lang.reflect.InvocationTargetException;
import java.lang.reflect.Method;
import java.math.BigInteger;
import java.util.Random;

/**
 * The numbers without a bound inside the class, against BigInteger: carries between digits and nearest doubles are too
 * rare for runs of calls to meet them. Numbers are made and read by the methods of Whole alone.
 */
public final class WholeTest {
    private static final Class<?> WHOLE = nested("Cycleworks$Whole");
    private static final BigInteger THOUSAND = BigInteger.valueOf(1000);
    private static final BigInteger CAP = BigInteger.ONE.shiftLeft(50);

    private static final Check CHECK = new Check();
    private static final Random RANDOM = new Random(7);

    private WholeTest() {
    }

    private static Class<?> nested(String name) {
        try {
            return Class.forName(name);
        } catch (ClassNotFoundException none) {
            throw new IllegalStateException(none);
        }
    }

    private static Object whole() throws Exception {
        Constructor<?> made = WHOLE.getDeclaredConstructor();
        made.setAccessible(true);
        return made.newInstance();
    }

    private static Object call(Object whole, String name, Object... numbers) throws Exception {
        for (Method method : WHOLE.getDeclaredMethods()) {
            if (method.getName().equals(name)) {
                method.setAccessible(true);
                try {
                    return method.invoke(whole, numbers);
                } catch (InvocationTargetException thrown) {
                    return thrown.getCause().toString();
                }
            }
        }
        throw new NoSuchMethodException(name);
    }

    private static Object made(BigInteger number) throws Exception {
        Object made = whole();
        if (number.bitLength() < 63) {
            call(made, "set", number.longValue());
            return made;
        }
        call(made, "setTimes", made(number.divide(THOUSAND)), 1000);
        call(made, "add", number.mod(THOUSAND).longValue());
        return made;
    }

    private static BigInteger read(Object whole) throws Exception {
        Object left = whole();
        call(left, "copy", whole);
        BigInteger sum = BigInteger.ZERO;
        for (int shift = 0; !(Boolean) call(left, "isZero"); shift += 9) {
            sum = sum.add(BigInteger.valueOf((Long) call(left, "low") & 511).shiftLeft(shift));
            call(left, "setQuotient", left, 512);
        }
        return sum;
    }

    /** Numbers of all sizes, many of them next to a power of 2 or halfway between two doubles. */
    private static BigInteger chosen() {
        int bits = RANDOM.nextInt(RANDOM.nextInt(20) == 0 ? 1100 : 180);
        int near = RANDOM.nextInt(5) - 2;
        switch (RANDOM.nextInt(4)) {
            case 0:
                return BigInteger.ONE.shiftLeft(50 * (bits / 50)).add(BigInteger.valueOf(near)).abs();
            case 1:
                return new BigInteger(53, RANDOM).setBit(52).shiftLeft(1).setBit(0).shiftLeft(bits)
                        .add(BigInteger.valueOf(near)).abs();
            default:
                return new BigInteger(bits, RANDOM);
        }
    }

    private static void one(BigInteger x, BigInteger y) throws Exception {
        Object a = made(x);
        Object b = made(y);
        CHECK.is("itself", read(a), x);
        CHECK.is(x + " as a double", call(a, "toDouble"), x.doubleValue());
        CHECK.is(x + " as a long", call(a, "low"), x.longValue());
        CHECK.is(x + " capped", call(a, "capped"), x.min(CAP).longValue());
        CHECK.is(x + " is below " + y, call(a, "isBelow", b), x.compareTo(y) < 0);
        CHECK.is(x + " is below itself", call(a, "isBelow", made(x)), false);
        int times = RANDOM.nextInt(1001);
        Object sum = made(chosen());
        call(sum, "setSum", a, b, times);
        CHECK.is(x + " and " + times + " times " + y, read(sum), x.add(y.multiply(BigInteger.valueOf(times))));
        call(sum, "setSum", sum, b, -times);
        CHECK.is(x + " again", read(sum), x);
        int by = 1 + RANDOM.nextInt(1000);
        call(sum, "setQuotient", a, by);
        CHECK.is(x + " by " + by, read(sum), x.divide(BigInteger.valueOf(by)));
        long more = Math.max(RANDOM.nextInt(7) - 3, -x.min(CAP).longValue());
        call(a, "add", more);
        CHECK.is(x + " and " + more, read(a), x.add(BigInteger.valueOf(more)));
        CHECK.is(y + " untouched", read(b), y);
    }

    /** A number whose highest of some digits is not 0. */
    private static BigInteger ofDigits(int digits) {
        return new BigInteger(50 * digits - 1, RANDOM).setBit(50 * digits - 1);
    }

    /** Digits that a greater number left behind are none of a smaller one. */
    private static void shrunk(int first, int second, int third) throws Exception {
        Object reused = whole();
        call(reused, "setTimes", made(ofDigits(first)), 1);
        call(reused, "setQuotient", made(ofDigits(second)), 1);
        BigInteger last = ofDigits(third);
        call(reused, "setTimes", made(last), 1);
        CHECK.is("of " + first + ", then " + second + ", then " + third + " digits", read(reused), last);
    }

    public static void main(String[] args) throws Exception {
        for (int first = 1; first <= 4; first++) {
            for (int second = 1; second <= 2 * first + 4; second++) {
                for (int third = 1; third <= second; third++) {
                    shrunk(first, second, third);
                }
            }
        }
        for (int pair = 0; pair < 8000; pair++) {
            one(chosen(), chosen());
        }
        CHECK.end();
    }
}
