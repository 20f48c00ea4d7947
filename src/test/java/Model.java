import java.math.BigInteger;
import java.util.Arrays;

/** The document once more, call by call, over Reference: what CurveSuite has to answer. */
public final class Model {
    private static final Reference[] REFERENCES = {new Reference(0), new Reference(1)};

    private final byte[][] registers = {new byte[57], new byte[57], new byte[114], new byte[0]};
    private byte[] message = new byte[0];
    private byte[] context = new byte[0];
    private final Reference.P[] points = {Reference.NEUTRAL, Reference.NEUTRAL, Reference.NEUTRAL};
    private final int[] curves = new int[3];

    private static void allow(boolean right) {
        if (!right) {
            throw new IllegalArgumentException();
        }
    }

    private static void allowCurve(int curve) {
        allow(curve == 0 || curve == 1);
    }

    private static void allowPlace(int place) {
        allow(place == 0 || place == 1 || place == 2);
    }

    private static byte[] lowest(long bytes, int n) {
        byte[] row = new byte[n];
        for (int i = 0; i < n; i++) {
            row[n - 1 - i] = (byte) (bytes >> 8 * i);
        }
        return row;
    }

    private byte[] first(int register, int n) {
        return Arrays.copyOf(registers[register], n);
    }

    public void put(int register, int place, long bytes, int n) {
        allow(n >= 1 && n <= 8 && register >= 0 && register <= 2);
        if (place < 0 || (long) place + n > registers[register].length) {
            throw new IndexOutOfBoundsException();
        }
        System.arraycopy(lowest(bytes, n), 0, registers[register], place, n);
    }

    public int feed(boolean context, long bytes, int n) {
        allow(n >= 1 && n <= 8);
        byte[] fed = Check.join(context ? this.context : message, lowest(bytes, n));
        if (fed.length > (context ? 64 : 256)) {
            throw new IllegalStateException();
        }
        if (context) {
            this.context = fed;
        } else {
            message = fed;
        }
        return fed.length;
    }

    public void clear(boolean context) {
        if (context) {
            this.context = new byte[0];
        } else {
            message = new byte[0];
        }
    }

    public int move(int register) {
        allow(register >= 0 && register <= 2);
        int n = Math.min(registers[3].length, registers[register].length);
        System.arraycopy(registers[3], 0, registers[register], 0, n);
        return n;
    }

    public int look(int register, int k) {
        allow(register >= 0 && register <= 3);
        if (k < 0 || k >= registers[register].length) {
            throw new IndexOutOfBoundsException();
        }
        return registers[register][k] & 255;
    }

    public int size() {
        return registers[3].length;
    }

    public void hash(boolean shake, int n) {
        allow(!shake || n >= 0 && n <= 114);
        registers[3] = shake ? Shake.shake256(message, n) : Reference.sha512(message);
    }

    public boolean agree(int curve, boolean base) {
        allowCurve(curve);
        Reference ref = REFERENCES[curve];
        BigInteger u = BigInteger.valueOf(curve == 0 ? 9 : 5);
        byte[] key = base ? Reference.lowestFirst(u, ref.agreementBytes) : registers[1];
        registers[3] = ref.agree(registers[0], key);
        return Reference.number(registers[3]).signum() != 0;
    }

    public void derive(int curve) {
        allowCurve(curve);
        registers[3] = REFERENCES[curve].derive(registers[0]);
    }

    public void sign(int curve, boolean ph) {
        allowCurve(curve);
        registers[3] = REFERENCES[curve].sign(registers[0], message, context, ph);
    }

    public boolean verify(int curve, boolean ph) {
        allowCurve(curve);
        registers[3] = new byte[0];
        Reference ref = REFERENCES[curve];
        byte[] code = first(2, ref.bytes);
        byte[] key = first(1, ref.bytes);
        Reference.P r = ref.decode(code);
        Reference.P a = ref.decode(key);
        BigInteger s = Reference.number(Arrays.copyOfRange(registers[2], ref.bytes, 2 * ref.bytes));
        if (r == null || a == null || s.compareTo(ref.order) >= 0) {
            return false;
        }
        BigInteger c = BigInteger.valueOf(ref.cofactor);
        BigInteger k = ref.challenge(code, key, message, context, ph);
        Reference.P right = ref.add(ref.times(c, r), ref.times(c.multiply(k), a));
        return ref.times(c.multiply(s), ref.base).equals(right);
    }

    public boolean point(int curve, int place) {
        allowCurve(curve);
        allowPlace(place);
        Reference.P point = REFERENCES[curve].decode(registers[1]);
        if (point != null) {
            points[place] = point;
            curves[place] = curve;
        }
        return point != null;
    }

    public void add(int to, int a, int b, boolean less) {
        allowPlace(to);
        allowPlace(a);
        allowPlace(b);
        if (curves[a] != curves[b]) {
            throw new IllegalStateException();
        }
        Reference ref = REFERENCES[curves[a]];
        points[to] = ref.add(points[a], less ? ref.negate(points[b]) : points[b]);
        curves[to] = curves[a];
    }

    public void times(int to, int a) {
        allowPlace(to);
        allowPlace(a);
        Reference ref = REFERENCES[curves[a]];
        points[to] = ref.times(Reference.number(first(0, ref.bytes)), points[a]);
        curves[to] = curves[a];
    }

    public void code(int place) {
        allowPlace(place);
        registers[3] = REFERENCES[curves[place]].encode(points[place]);
    }

    public boolean same(int a, int b) {
        allowPlace(a);
        allowPlace(b);
        return curves[a] == curves[b] && points[a].equals(points[b]);
    }

    public int order(int place, int what) {
        allowPlace(place);
        allow(what >= 0 && what <= 2);
        if (what == 0) {
            return points[place].equals(Reference.NEUTRAL) ? 1 : 0;
        }
        if (what == 2) {
            return curves[place];
        }
        for (int n = 1; n <= 8; n *= 2) {
            if (REFERENCES[curves[place]].times(BigInteger.valueOf(n), points[place]).equals(Reference.NEUTRAL)) {
                return n;
            }
        }
        return 0;
    }
}
