import java.lang.reflect.Constructor;
import java.lang.reflect.Method;
import java.math.BigInteger;
import java.util.ArrayList;
import java.util.HashMap;
import java.util.List;
import java.util.Map;
import java.util.Random;

/**
 * The arithmetic that promises 9 to 18 rest on, with limbs at the loosest that Field allows between
 * its calls: a carry that is lost there would show in so few numbers that no run of calls finds it.
 */
public final class FieldTest {
    private static final int LOOSEST = 63;
    private static final int ROOM = 16;

    private final boolean is448;
    private final int limbs;
    private final int bits;
    private final BigInteger p;
    private final Object field;
    private final Map<String, Method> methods = new HashMap<>();
    private final Random random = new Random(1200);

    private FieldTest(boolean is448) throws ReflectiveOperationException {
        this.is448 = is448;
        limbs = is448 ? 16 : 9;
        bits = is448 ? 28 : 29;
        p = new Reference(is448 ? 1 : 0).p;
        Class<?> type = Class.forName("CurveSuite$Field");
        Constructor<?> constructor = type.getDeclaredConstructor(boolean.class);
        constructor.setAccessible(true);
        field = constructor.newInstance(is448);
        for (Method method : type.getDeclaredMethods()) {
            method.setAccessible(true);
            methods.put(method.getName(), method);
        }
    }

    public static void main(String[] args) throws ReflectiveOperationException {
        for (boolean is448 : new boolean[] {false, true}) {
            FieldTest test = new FieldTest(is448);
            List<long[]> numbers = test.numbers();
            for (long[] a : numbers) {
                test.one(a);
                for (long[] b : numbers) {
                    test.two(a, b);
                }
            }
        }
        Check.finish();
    }

    /** All limbs alike or random, and then the limbs that carries come down to at and around their ends. */
    private List<long[]> numbers() {
        List<long[]> numbers = new ArrayList<>();
        long[] ends = {-LOOSEST, -1, 0, 1, mask(0) - 1, mask(0), mask(0) + 1, mask(0) + LOOSEST};
        for (int pattern = 0; pattern < 6; pattern++) {
            for (long low : ends) {
                long[] number = patterned(pattern);
                number[0] = low;
                numbers.add(number);
                long[] second = patterned(pattern);
                second[8] = Math.min(low, mask(8) + LOOSEST);
                numbers.add(second);
            }
        }
        for (int k = -2; k <= 2; k++) {
            numbers.add(split(p.add(BigInteger.valueOf(k)).max(BigInteger.ZERO)));
        }
        return numbers;
    }

    private long[] patterned(int pattern) {
        long[] number = new long[ROOM];
        for (int i = 0; i < limbs; i++) {
            long somewhere = random.nextLong() & mask(i);
            long[] choices = {0, mask(i), i < 8 ? mask(i) : 0, -LOOSEST, mask(i) + LOOSEST, somewhere};
            number[i] = choices[pattern];
        }
        return number;
    }

    private long mask(int limb) {
        return (1L << (!is448 && limb == 8 ? 23 : bits)) - 1;
    }

    private long[] split(BigInteger value) {
        long[] number = new long[ROOM];
        for (int i = 0; i < limbs; i++) {
            number[i] = value.shiftRight(bits * i).longValue() & mask(i);
        }
        return number;
    }

    private BigInteger value(long[] number) {
        BigInteger sum = BigInteger.ZERO;
        for (int i = limbs - 1; i >= 0; i--) {
            sum = sum.shiftLeft(bits).add(BigInteger.valueOf(number[i]));
        }
        return sum;
    }

    private Object call(String name, Object... args) throws ReflectiveOperationException {
        return methods.get(name).invoke(field, args);
    }

    private void due(String what, BigInteger due, long[] got) {
        Check.same(what + ": the number", true, value(got).subtract(due).mod(p).signum() == 0);
        for (int i = 0; i < limbs; i++) {
            Check.same(what + ": limb " + i, true, got[i] >= -LOOSEST && got[i] <= mask(i) + LOOSEST);
        }
    }

    private void one(long[] a) throws ReflectiveOperationException {
        String what = (is448 ? "448: " : "25519: ") + value(a);
        long[] to = new long[ROOM];
        BigInteger rest = value(a).mod(p);
        call("negate", to, a);
        due("minus " + what, value(a).negate(), to);
        call("square", to, a);
        due("square of " + what, value(a).pow(2), to);
        int factor = is448 ? 39081 : 121665;
        call("multiplySmall", to, a, factor);
        due(factor + " times " + what, value(a).multiply(BigInteger.valueOf(factor)), to);
        call("invert", to, a);
        due("inverse of " + what, rest.modPow(p.subtract(BigInteger.TWO), p), to);
        int[] written = new int[57];
        call("write", written, a);
        byte[] due = Reference.lowestFirst(rest, is448 ? 56 : 32);
        for (int i = 0; i < due.length; i++) {
            Check.same("byte " + i + " of " + what, due[i] & 255, written[i]);
        }
        Check.same("0 is " + what, rest.signum() == 0, (Boolean) call("isZero", a));
        Check.same("odd is " + what, rest.testBit(0), (Boolean) call("isOdd", a));
    }

    private void two(long[] a, long[] b) throws ReflectiveOperationException {
        String what = (is448 ? "448: " : "25519: ") + value(a) + " and " + value(b);
        long[] to = new long[ROOM];
        call("plus", to, a, b);
        due("sum of " + what, value(a).add(value(b)), to);
        call("minus", to, a, b);
        due("difference of " + what, value(a).subtract(value(b)), to);
        call("multiply", to, a, b);
        due("product of " + what, value(a).multiply(value(b)), to);
        boolean equal = value(a).subtract(value(b)).mod(p).signum() == 0;
        Check.same("equal are " + what, equal, (Boolean) call("areEqual", a, b));
    }
}
