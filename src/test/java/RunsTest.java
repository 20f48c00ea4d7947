import java.lang.reflect.InvocationTargetException;
import java.lang.reflect.Method;
import java.lang.reflect.Modifier;
import java.math.BigInteger;
import java.util.ArrayList;
import java.util.HashMap;
import java.util.List;
import java.util.Map;
import java.util.Random;

/**
 * Long runs of calls on one object, many of them at edges or beyond, each answer and each refusal
 * compared with Model's: what one call leaves behind must not show in another. An argument says
 * how many runs, if there shall be more than .ci/run has time for.
 */
public final class RunsTest {
    private static final int RUNS = 40;
    private static final int MOST_CALLS = 512;
    private static final Reference[] REFERENCES = {new Reference(0), new Reference(1)};
    private static final Map<String, Method> FACE = methods(CurveSuite.class);
    private static final Map<String, Method> MODEL = methods(Model.class);

    private final Random random;
    private final int run;
    private final CurveSuite suite = new CurveSuite();
    private final Model model = new Model();
    private int calls = 0;

    private RunsTest(int run) {
        this.run = run;
        random = new Random(900 + run);
    }

    public static void main(String[] args) throws ReflectiveOperationException {
        Check.same("Model has the whole face", true, MODEL.keySet().containsAll(FACE.keySet()));
        int runs = args.length > 0 ? Integer.parseInt(args[0]) : RUNS;
        for (int run = 0; run < runs; run++) {
            new RunsTest(run).go();
        }
        Check.finish();
    }

    private static Map<String, Method> methods(Class<?> type) {
        Map<String, Method> methods = new HashMap<>();
        for (Method method : type.getDeclaredMethods()) {
            if (Modifier.isPublic(method.getModifiers())) {
                methods.put(method.getName(), method);
            }
        }
        return methods;
    }

    private void go() throws ReflectiveOperationException {
        while (calls < 380) {
            step();
            call("size");
        }
        for (int place = 0; place < 3; place++) {
            call("order", place, 2);
            call("code", place);
            lookAtAll(3, 57, 11);
        }
        for (int r = 0; r < 3; r++) {
            lookAtAll(r, r == 2 ? 114 : 57, 7);
        }
        while (calls < MOST_CALLS - 1) {
            call("order", near(0, 2), near(0, 2));
        }
        call("verify", random.nextInt(2), random.nextBoolean());
        Check.same("calls of a run, the last of them as good as the first", MOST_CALLS, calls);
    }

    private void lookAtAll(int register, int n, int by) throws ReflectiveOperationException {
        for (int k = 0; k < n; k += by) {
            call("look", register, k);
        }
    }

    private void call(String name, Object... args) throws ReflectiveOperationException {
        calls++;
        String due = answer(MODEL.get(name), model, args);
        String got = answer(FACE.get(name), suite, args);
        Check.same("run " + run + ", call " + calls + ": " + name + List.of(args), due.getBytes(), got.getBytes());
    }

    private static String answer(Method method, Object on, Object[] args) throws ReflectiveOperationException {
        try {
            return String.valueOf(method.invoke(on, args));
        } catch (InvocationTargetException e) {
            return e.getCause().getClass().getName();
        }
    }

    private void step() throws ReflectiveOperationException {
        int kind = random.nextInt(20);
        switch (kind) {
            case 0, 1 -> call("put", near(0, 2), near(0, random.nextBoolean() ? 49 : 106), someLong(), near(1, 8));
            case 2, 3 -> loadKey();
            case 4 -> loadSecret();
            case 5 -> feedSome();
            case 6 -> call("clear", random.nextBoolean());
            case 7 -> call("move", near(0, 2));
            case 8 -> call("look", near(0, 3), near(0, random.nextBoolean() ? 56 : 113));
            case 9 -> call("hash", random.nextBoolean(), near(0, 114));
            case 10 -> call("agree", near(0, 1), random.nextBoolean());
            case 11 -> call(random.nextBoolean() ? "derive" : "code", near(0, 1));
            case 12 -> call("sign", near(0, 1), random.nextBoolean());
            case 13 -> call("verify", near(0, 1), random.nextBoolean());
            case 14 -> signAndVerify();
            case 15 -> call("point", near(0, 1), near(0, 2));
            case 16 -> call("add", near(0, 2), near(0, 2), near(0, 2), random.nextBoolean());
            case 17 -> call("times", near(0, 2), near(0, 2));
            case 18 -> call("same", near(0, 2), near(0, 2));
            default -> call("order", near(0, 2), near(0, 2));
        }
    }

    /** Mostly a number of the range, often one of its ends, sometimes one beyond them. */
    private int near(int lowest, int highest) {
        int kind = random.nextInt(40);
        if (kind < 2) {
            return kind == 0 ? lowest - 1 : highest + 1;
        }
        if (kind == 2) {
            return random.nextInt();
        }
        if (kind < 12) {
            return random.nextBoolean() ? lowest : highest;
        }
        return lowest + random.nextInt(highest - lowest + 1);
    }

    private long someLong() {
        int kind = random.nextInt(4);
        return kind == 0 ? 0L : kind == 1 ? -1L : random.nextLong();
    }

    private void load(int register, byte[] bytes) throws ReflectiveOperationException {
        for (int i = 0; i < bytes.length; i += 8) {
            int n = Math.min(8, bytes.length - i);
            long word = 0;
            for (int k = i; k < i + n; k++) {
                word = word << 8 | bytes[k] & 255;
            }
            call("put", register, i, word, n);
        }
    }

    /** A code of a point of either kind, or nearly one, and it comes to a place. */
    private void loadKey() throws ReflectiveOperationException {
        int curve = random.nextInt(2);
        Reference ref = REFERENCES[curve];
        List<byte[]> codes = new ArrayList<>();
        codes.add(ref.encode(ref.base));
        codes.add(ref.encode(ref.times(BigInteger.valueOf(random.nextInt(8)), ref.smallGenerator())));
        codes.add(ref.encode(ref.add(ref.smallGenerator(), ref.base)));
        codes.add(Reference.lowestFirst(ref.p.add(BigInteger.valueOf(random.nextInt(5) - 2)), ref.bytes));
        byte[] code = codes.get(random.nextInt(codes.size()));
        if (random.nextInt(4) == 0) {
            code[ref.bytes - 1] ^= (byte) 128;
        }
        load(Check.PUBLIC, code);
        call("point", curve, random.nextInt(3));
    }

    private void loadSecret() throws ReflectiveOperationException {
        Reference ref = REFERENCES[random.nextInt(2)];
        if (random.nextBoolean()) {
            load(Check.SECRET, Check.random(random, 57));
        } else {
            load(Check.SECRET, Reference.lowestFirst(ref.order.add(BigInteger.valueOf(random.nextInt(3) - 1)), ref.bytes));
        }
    }

    private void feedSome() throws ReflectiveOperationException {
        boolean context = random.nextBoolean();
        int times = random.nextInt(4) == 0 ? 10 : 2;
        for (int i = 0; i < times; i++) {
            call("feed", context, someLong(), i % 2 == 0 ? 8 : near(1, 8));
        }
    }

    /** A signature that is right, and then perhaps one that is not. */
    private void signAndVerify() throws ReflectiveOperationException {
        int curve = random.nextInt(2);
        boolean ph = random.nextBoolean();
        call("derive", curve);
        call("move", Check.PUBLIC);
        call("sign", curve, ph);
        call("move", Check.SIGNATURE);
        if (random.nextInt(3) == 0) {
            call("put", near(1, 2), near(0, REFERENCES[curve].bytes - 1), someLong(), 1);
        }
        call("verify", curve, ph);
    }
}
