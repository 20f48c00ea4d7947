import java.math.BigInteger;
import java.util.ArrayList;
import java.util.Arrays;
import java.util.List;
import java.util.Random;

/** Promises 13 to 18: point, add, times, code, same, order. */
public final class PointsTest {
    private static final Reference[] REFERENCES = {new Reference(0), new Reference(1)};
    private static final int[] NO_PLACES = {-1, 3, Integer.MIN_VALUE, Integer.MAX_VALUE};

    public static void main(String[] args) {
        for (int curve = 0; curve < 2; curve++) {
            codes(curve);
            randomCodes(curve);
            sums(curve);
            sumsOverPlaces(curve);
            products(curve);
            productsOverPlaces(curve);
            smallOrders(curve);
            samePoints(curve);
            refusals(curve);
        }
        referenceAgreesWithItself();
        bothCurves();
        stateStays();
        longRun();
        Check.finish();
    }

    /** A point of the group or beside it: every use of a list has ordinary points and those of small order. */
    private static List<Reference.P> somePoints(Reference ref) {
        Random random = new Random(200 + ref.curve);
        Reference.P small = ref.smallGenerator();
        List<Reference.P> points = new ArrayList<>();
        for (int i = 0; i < ref.cofactor; i++) {
            points.add(ref.times(BigInteger.valueOf(i), small));
        }
        points.add(ref.base);
        points.add(ref.negate(ref.base));
        for (int i = 0; i < 4; i++) {
            Reference.P point = ref.times(new BigInteger(440, random).mod(ref.order), ref.base);
            points.add(point);
            points.add(ref.add(point, ref.times(BigInteger.valueOf(1 + 2 * i), small)));
        }
        return points;
    }

    private static void place(CurveSuite x, Reference ref, Reference.P point, int place) {
        Check.load(x, Check.PUBLIC, ref.encode(point));
        Check.same("point", true, x.point(ref.curve, place));
    }

    private static void checkCode(int curve, byte[] code) {
        Reference ref = REFERENCES[curve];
        Reference.P due = ref.decode(code);
        CurveSuite x = Check.suite(null, code, null);
        place(x, REFERENCES[1 - curve], REFERENCES[1 - curve].base, 1);
        Check.load(x, Check.PUBLIC, code);
        Check.same("point of " + Check.hex(code), due != null, x.point(curve, 1));
        Check.same("its curve", due != null ? curve : 1 - curve, x.order(1, 2));
        byte[] stays = REFERENCES[1 - curve].encode(REFERENCES[1 - curve].base);
        Check.same("its code", due != null ? Arrays.copyOf(code, ref.bytes) : stays, Check.code(x, 1));
        if (due != null) {
            x.add(0, 1, 1, false);
            Check.same("its double", ref.encode(ref.add(due, due)), Check.code(x, 0));
        }
        Check.same("another place", 0, x.order(2, 2));
    }

    /** y about 0, 1, the prime and the ends of what the bytes hold, with all that can stand above it. */
    private static void codes(int curve) {
        Reference ref = REFERENCES[curve];
        BigInteger end = BigInteger.TWO.pow(8 * ref.bytes);
        for (BigInteger about : new BigInteger[] {BigInteger.ZERO, ref.p, ref.p.shiftLeft(1),
            BigInteger.TWO.pow(224), BigInteger.TWO.pow(255), BigInteger.TWO.pow(448), end}) {
            for (int by = -25; by <= 25; by++) {
                BigInteger y = about.add(BigInteger.valueOf(by));
                if (y.signum() >= 0 && y.compareTo(end) < 0) {
                    byte[] code = Reference.lowestFirst(y, ref.bytes);
                    checkCode(curve, code);
                    code[ref.bytes - 1] ^= (byte) 128;
                    checkCode(curve, code);
                }
            }
        }
        for (int top = 0; top < 256; top++) {
            byte[] code = ref.encode(ref.base);
            code[ref.bytes - 1] = (byte) (curve == 0 ? code[ref.bytes - 1] ^ top : top);
            checkCode(curve, code);
        }
    }

    private static void randomCodes(int curve) {
        Random random = new Random(210 + curve);
        for (int i = 0; i < 200; i++) {
            byte[] code = Check.random(random, 57);
            if (curve == 1) {
                code[56] &= (byte) 128;
            }
            checkCode(curve, code);
        }
        for (int pattern : new int[] {0x00, 0xff, 0x01, 0x10, 0x55, 0xaa, 0x7f, 0x80, 0xf7, 0xef}) {
            byte[] code = new byte[57];
            Arrays.fill(code, (byte) pattern);
            checkCode(curve, code);
            code[56] = 0;
            checkCode(curve, code);
        }
    }

    private static void sums(int curve) {
        Reference ref = REFERENCES[curve];
        List<Reference.P> points = somePoints(ref);
        for (Reference.P one : points) {
            for (Reference.P other : points) {
                CurveSuite x = new CurveSuite();
                place(x, ref, one, 0);
                place(x, ref, other, 1);
                x.add(2, 0, 1, false);
                Check.same("a sum", ref.encode(ref.add(one, other)), Check.code(x, 2));
                x.add(2, 0, 2, true);
                Check.same("a point less a sum", ref.encode(ref.negate(other)), Check.code(x, 2));
                x.add(2, 0, 1, true);
                Check.same("a difference", ref.encode(ref.add(one, ref.negate(other))), Check.code(x, 2));
                Check.same("its curve", curve, x.order(2, 2));
                x.add(2, 2, 1, false);
                Check.same("back again", true, x.same(2, 0));
                Check.same("the first stays", ref.encode(one), Check.code(x, 0));
                Check.same("the second stays", ref.encode(other), Check.code(x, 1));
            }
        }
    }

    private static void sumsOverPlaces(int curve) {
        Reference ref = REFERENCES[curve];
        Reference.P[] at = {ref.base, ref.times(BigInteger.valueOf(77), ref.base), ref.smallGenerator()};
        for (int run = 0; run < 54; run++) {
            int to = run % 3;
            int a = run / 3 % 3;
            int b = run / 9 % 3;
            boolean less = run / 27 == 1;
            CurveSuite x = new CurveSuite();
            for (int place = 0; place < 3; place++) {
                place(x, ref, at[place], place);
            }
            x.add(to, a, b, less);
            byte[] due = ref.encode(ref.add(at[a], less ? ref.negate(at[b]) : at[b]));
            for (int place = 0; place < 3; place++) {
                Check.same("add(" + to + ", " + a + ", " + b + ", " + less + ")",
                        place == to ? due : ref.encode(at[place]), Check.code(x, place));
            }
        }
    }

    private static List<byte[]> someNumbers(Reference ref) {
        List<byte[]> numbers = new ArrayList<>();
        BigInteger end = BigInteger.TWO.pow(8 * ref.bytes);
        for (int i = 0; i <= 20; i++) {
            numbers.add(Reference.lowestFirst(BigInteger.valueOf(i), ref.bytes));
        }
        for (BigInteger about : new BigInteger[] {ref.order, ref.order.multiply(BigInteger.valueOf(ref.cofactor)), end}) {
            for (int by = -2; by <= 2; by++) {
                numbers.add(Reference.lowestFirst(about.add(BigInteger.valueOf(by)).mod(end), ref.bytes));
            }
        }
        for (int bit = 0; bit < 8 * ref.bytes; bit += 37) {
            numbers.add(Reference.lowestFirst(BigInteger.TWO.pow(bit), ref.bytes));
        }
        Random random = new Random(220 + ref.curve);
        for (int i = 0; i < 10; i++) {
            numbers.add(Check.random(random, 57));
        }
        return numbers;
    }

    private static void products(int curve) {
        Reference ref = REFERENCES[curve];
        List<Reference.P> points = somePoints(ref);
        int next = 0;
        for (byte[] number : someNumbers(ref)) {
            for (int i = 0; i < 4; i++) {
                Reference.P point = points.get(next++ % points.size());
                CurveSuite x = Check.suite(number, null, null);
                place(x, ref, point, 1);
                x.times(2, 1);
                BigInteger n = Reference.number(Arrays.copyOf(number, ref.bytes));
                Check.same("a product", ref.encode(ref.times(n, point)), Check.code(x, 2));
                Check.same("its curve", curve, x.order(2, 2));
                Check.same("the point stays", ref.encode(point), Check.code(x, 1));
            }
        }
    }

    private static void productsOverPlaces(int curve) {
        Reference ref = REFERENCES[curve];
        byte[] number = Check.random(new Random(230), 57);
        BigInteger n = Reference.number(Arrays.copyOf(number, ref.bytes));
        for (int to = 0; to < 3; to++) {
            for (int a = 0; a < 3; a++) {
                CurveSuite x = Check.suite(number, null, null);
                place(x, REFERENCES[1 - curve], REFERENCES[1 - curve].base, to);
                place(x, ref, ref.base, a);
                x.times(to, a);
                x.times(to, to);
                Check.same("a product twice", ref.encode(ref.times(n.multiply(n), ref.base)), Check.code(x, to));
            }
        }
    }

    private static void smallOrders(int curve) {
        Reference ref = REFERENCES[curve];
        for (Reference.P point : somePoints(ref)) {
            int due = 0;
            for (int n = 8; n >= 1; n /= 2) {
                if (ref.times(BigInteger.valueOf(n), point).equals(Reference.NEUTRAL)) {
                    due = n;
                }
            }
            CurveSuite x = new CurveSuite();
            place(x, ref, point, 2);
            Check.same("whether neutral", point.equals(Reference.NEUTRAL) ? 1 : 0, x.order(2, 0));
            Check.same("the small order", due, x.order(2, 1));
            Check.same("the curve", curve, x.order(2, 2));
            Check.same("the point stays", ref.encode(point), Check.code(x, 2));
            x.add(2, 2, 2, true);
            Check.same("itself less itself", 1, x.order(2, 0));
            Check.same("itself less itself", 1, x.order(2, 1));
            Check.same("of the same curve", curve, x.order(2, 2));
        }
    }

    private static void samePoints(int curve) {
        Reference ref = REFERENCES[curve];
        List<Reference.P> points = somePoints(ref);
        for (int i = 0; i < points.size(); i++) {
            for (int j = 0; j < points.size(); j++) {
                CurveSuite x = new CurveSuite();
                place(x, ref, points.get(i), 0);
                place(x, ref, ref.base, 1);
                x.add(0, 0, 1, false);
                x.add(0, 0, 1, true);
                place(x, ref, points.get(j), 1);
                Check.same("same", i == j, x.same(0, 1));
                Check.same("same", i == j, x.same(1, 0));
                Check.same("same as itself", true, x.same(0, 0));
            }
        }
        CurveSuite x = new CurveSuite();
        place(x, ref, Reference.NEUTRAL, 1);
        Check.same("neutral points of one curve", curve == 0, x.same(0, 1));
    }

    private static void refusals(int curve) {
        CurveSuite x = new CurveSuite();
        place(x, REFERENCES[curve], REFERENCES[curve].base, 0);
        byte[] due = Check.code(x, 0);
        for (int wrong : NO_PLACES) {
            Check.illegal("point", () -> x.point(curve, wrong));
            Check.illegal("add", () -> x.add(wrong, 0, 0, false));
            Check.illegal("add", () -> x.add(0, wrong, 0, false));
            Check.illegal("add", () -> x.add(0, 0, wrong, true));
            Check.illegal("times", () -> x.times(wrong, 0));
            Check.illegal("times", () -> x.times(0, wrong));
            Check.illegal("code", () -> x.code(wrong));
            Check.illegal("same", () -> x.same(wrong, 0));
            Check.illegal("same", () -> x.same(0, wrong));
            Check.illegal("order", () -> x.order(wrong, 0));
            Check.illegal("order", () -> x.order(0, wrong));
        }
        for (int wrong : new int[] {-1, 2, Integer.MIN_VALUE, Integer.MAX_VALUE}) {
            Check.illegal("point on no curve", () -> x.point(wrong, 0));
            Check.illegal("point on no curve, at no place", () -> x.point(wrong, 3));
        }
        Check.same("refused calls leave OUT", due, Check.out(x));
        Check.same("refused calls leave the point", due, Check.code(x, 0));
    }

    private static void bothCurves() {
        for (int at = 0; at < 3; at++) {
            CurveSuite x = new CurveSuite();
            place(x, REFERENCES[1], REFERENCES[1].base, at);
            int one = at;
            int other = (at + 1) % 3;
            for (boolean less : new boolean[] {false, true}) {
                Check.fails("add over curves", IllegalStateException.class, () -> x.add(one, one, other, less));
                Check.fails("add over curves", IllegalStateException.class, () -> x.add(other, other, one, less));
                Check.illegal("add over curves to no place", () -> x.add(3, one, other, less));
            }
            Check.same("refused calls leave the curves", 1, x.order(one, 2));
            Check.same("refused calls leave the curves", 0, x.order(other, 2));
            Check.same("not same over curves", false, x.same(one, other));
            x.add(other, one, one, true);
            Check.same("the sum brings its curve", 1, x.order(other, 2));
            Check.same("and is neutral", 1, x.order(other, 0));
            Check.same("not the neutral one of the other curve", false, x.same(other, (at + 2) % 3));
            x.add(one, (at + 2) % 3, (at + 2) % 3, false);
            Check.same("the sum brings its curve", 0, x.order(one, 2));
            Check.same("code of the neutral point", REFERENCES[0].encode(Reference.NEUTRAL), Check.code(x, one));
            Check.same("code of the neutral point", REFERENCES[1].encode(Reference.NEUTRAL), Check.code(x, other));
        }
    }

    /** Calls of which OUT is not told leave it; other calls leave the points. */
    private static void stateStays() {
        CurveSuite x = Check.suite(Check.random(new Random(240), 57), null, null);
        for (int curve = 0; curve < 2; curve++) {
            place(x, REFERENCES[curve], REFERENCES[curve].base, curve);
        }
        x.hash(true, 11);
        byte[] out = Check.out(x);
        x.point(0, 2);
        x.add(2, 0, 0, false);
        x.times(2, 1);
        x.same(0, 1);
        x.order(0, 1);
        x.put(0, 0, 5, 1);
        x.feed(false, 5, 1);
        x.clear(false);
        Check.same("OUT is left", out, Check.out(x));
        x.times(2, 0);
        byte[] due = Check.code(x, 2);
        for (int curve = 0; curve < 2; curve++) {
            x.agree(curve, true);
            x.derive(curve);
            x.sign(curve, false);
            x.verify(curve, true);
            Check.same("the base point stays", REFERENCES[curve].encode(REFERENCES[curve].base), Check.code(x, curve));
        }
        Check.same("the product stays", due, Check.code(x, 2));
    }

    /** Products, as the tests reckon them, against plain sums. */
    private static void referenceAgreesWithItself() {
        for (Reference ref : REFERENCES) {
            for (Reference.P point : new Reference.P[] {ref.base, ref.smallGenerator(), ref.add(ref.base, ref.smallGenerator())}) {
                Reference.P sum = Reference.NEUTRAL;
                BigInteger number = BigInteger.ZERO;
                for (int i = 0; i < 200; i++) {
                    boolean twice = i % 3 > 0;
                    sum = ref.add(sum, twice ? sum : point);
                    number = number.add(twice ? number : BigInteger.ONE);
                    Check.same("times", true, sum.equals(ref.times(number, point)));
                }
            }
        }
    }

    /** Many sums in a row, whose points are never written anew: Fibonacci's numbers times the base point. */
    private static void longRun() {
        for (Reference ref : REFERENCES) {
            CurveSuite x = new CurveSuite();
            place(x, ref, ref.base, 0);
            place(x, ref, ref.base, 1);
            BigInteger[] numbers = {BigInteger.ONE, BigInteger.ONE};
            for (int i = 0; i < 300; i++) {
                x.add(i % 2, 0, 1, false);
                numbers[i % 2] = numbers[0].add(numbers[1]).mod(ref.order);
            }
            x.code(1);
            Check.same("a long run of sums", ref.encode(ref.times(numbers[1], ref.base)), Check.out(x));
        }
    }
}
