import java.math.BigInteger;
import java.util.Arrays;
import java.util.Random;

/** The edges of promises 13 to 18; above each test stand the document's words that it holds the program to. */
public final class PointEdgesTest {
    private static final Reference[] REFERENCES = {new Reference(0), new Reference(1)};

    public static void main(String[] args) {
        for (int curve = 0; curve < 2; curve++) {
            coordinateBelowThePrime(curve);
            bitsAboveTheCoordinate(curve);
            xIsThere(curve);
            xOfZeroWithSign(curve);
            signTellsTheX(curve);
            pointTakesTheFirstBytes(curve);
            noPointLeavesThePlace(curve);
            pointOverASum(curve);
            pointRefused(curve);
            sumsWithTheNeutralOne(curve);
            sumsOfAPointWithItself(curve);
            sumsOfSums(curve);
            sumsToOneOfTheTwo(curve);
            sumToAPlaceOfTheOtherCurve(curve);
            addRefused(curve);
            productsAtTheEnds(curve);
            productsAboutTheOrder(curve);
            productWithOneBit(curve);
            timesTakesTheFirstBytes(curve);
            productOfTheNeutralOne(curve);
            productToItsOwnPlace(curve);
            timesRefused(curve);
            codeOfLeastAndGreatest(curve);
            codeRefused(curve);
            sameOfOnePoint(curve);
            sameOfNearlyTheSame(curve);
            sameRefused(curve);
            ordersThatAreSmall(curve);
            ordersThatAreNotSmall(curve);
            orderRefused(curve);
        }
        addOfTwoCurves();
        addOfTwoCurvesWithoutAPlace();
        sameOfTwoCurves();
        Check.finish();
    }

    private static int bytes(int curve) {
        return REFERENCES[curve].bytes;
    }

    private static byte[] code(int curve, BigInteger y, int sign) {
        byte[] code = Reference.lowestFirst(y, bytes(curve));
        code[bytes(curve) - 1] ^= (byte) (sign << 7);
        return code;
    }

    private static byte[] codeOf(int curve, Reference.P point) {
        return REFERENCES[curve].encode(point);
    }

    private static byte[] neutralCode(int curve) {
        return code(curve, BigInteger.ONE, 0);
    }

    private static void place(CurveSuite x, int curve, Reference.P point, int place) {
        Check.load(x, Check.PUBLIC, codeOf(curve, point));
        Check.same("point", true, x.point(curve, place));
    }

    /** The base point in place 0, its double in 1 and a point of small order in 2. */
    private static CurveSuite threePoints(int curve) {
        CurveSuite x = new CurveSuite();
        Reference.P[] points = threePointsDue(curve);
        for (int i = 0; i < 3; i++) {
            place(x, curve, points[i], i);
        }
        return x;
    }

    private static Reference.P[] threePointsDue(int curve) {
        Reference ref = REFERENCES[curve];
        return new Reference.P[] {ref.base, ref.add(ref.base, ref.base), ref.smallGenerator()};
    }

    private static void checkPlaces(String what, CurveSuite x, int curve, Reference.P[] due) {
        for (int i = 0; i < 3; i++) {
            Check.same(what + ": the curve at " + i, curve, x.order(i, 2));
            Check.same(what + ": the point at " + i, codeOf(curve, due[i]), Check.code(x, i));
        }
    }

    private static void checkIsCode(String what, int curve, byte[] code, boolean due) {
        CurveSuite x = Check.suite(null, code, null);
        Check.same(what + " " + Check.hex(code), due, x.point(curve, 1));
        Check.same("the curve", due ? curve : 0, x.order(1, 2));
        Check.same("the point", due ? Arrays.copyOf(code, bytes(curve)) : neutralCode(0), Check.code(x, 1));
    }

    /** "(as above)": "the coordinate below the prime". */
    private static void coordinateBelowThePrime(int curve) {
        Reference ref = REFERENCES[curve];
        BigInteger last = BigInteger.TWO.pow(curve == 0 ? 255 : 448).subtract(BigInteger.ONE);
        for (int sign = 0; sign < 2; sign++) {
            checkIsCode("y of 0", curve, code(curve, BigInteger.ZERO, sign), true);
            for (int by = 0; by < 19; by++) {
                checkIsCode("y beyond", curve, code(curve, ref.p.add(BigInteger.valueOf(by)), sign), false);
            }
            checkIsCode("the greatest y", curve, code(curve, last, sign), false);
            for (int by = 2; by < 19; by++) {
                BigInteger y = ref.p.subtract(BigInteger.valueOf(by));
                checkIsCode("y below", curve, code(curve, y, sign), ref.decode(code(curve, y, sign)) != null);
            }
        }
        checkIsCode("y of 1", curve, neutralCode(curve), true);
        checkIsCode("y of -1", curve, code(curve, ref.p.subtract(BigInteger.ONE), 0), true);
    }

    /** "all bits above it but the sign 0": seven bits on curve 1, none on curve 0. */
    private static void bitsAboveTheCoordinate(int curve) {
        for (int top = 0; top < 256 && curve == 1; top++) {
            for (Reference.P point : new Reference.P[] {REFERENCES[1].base, REFERENCES[1].smallGenerator()}) {
                byte[] code = codeOf(1, point);
                code[56] = (byte) top;
                checkIsCode("bits above y", 1, code, top == 0 || top == 128);
            }
        }
    }

    /** "x there". */
    private static void xIsThere(int curve) {
        int without = 0;
        for (int y = 0; y < 40; y++) {
            byte[] code = code(curve, BigInteger.valueOf(y), 0);
            boolean due = REFERENCES[curve].decode(code) != null;
            checkIsCode("a small y", curve, code, due);
            without += due ? 0 : 1;
        }
        Check.same("some have an x, some none", true, without > 5 && without < 35);
    }

    /** "and not 0 with the sign 1". */
    private static void xOfZeroWithSign(int curve) {
        for (BigInteger y : new BigInteger[] {BigInteger.ONE, REFERENCES[curve].p.subtract(BigInteger.ONE)}) {
            checkIsCode("x of 0", curve, code(curve, y, 0), true);
            checkIsCode("x of 0 with the sign", curve, code(curve, y, 1), false);
        }
    }

    /** "codes of points as the RFC has them": the two signs are a point and its opposite. */
    private static void signTellsTheX(int curve) {
        byte[] code = codeOf(curve, REFERENCES[curve].base);
        CurveSuite x = Check.suite(null, code, null);
        Check.same("one sign", true, x.point(curve, 0));
        code[bytes(curve) - 1] ^= (byte) 128;
        Check.load(x, Check.PUBLIC, code);
        Check.same("the other sign", true, x.point(curve, 1));
        Check.same("are not the same", false, x.same(0, 1));
        x.add(2, 0, 1, false);
        Check.same("their sum is the neutral one", 1, x.order(2, 0));
    }

    /** "PUBLIC's first 32 or 57 bytes". */
    private static void pointTakesTheFirstBytes(int curve) {
        byte[] code = Arrays.copyOf(neutralCode(curve), 57);
        for (int i = bytes(curve); i < 57; i++) {
            code[i] = (byte) 255;
        }
        CurveSuite x = Check.suite(null, code, null);
        Check.same("bytes behind the code", true, x.point(curve, 0));
        Check.same("bytes behind the code", neutralCode(curve), Check.code(x, 0));
        x.put(Check.PUBLIC, bytes(curve) - 1, 255, 1);
        Check.same("the last byte of the code", false, x.point(curve, 0));
    }

    /** "false, leaving it, when they are none": the point stays, and its curve, be it the other one. */
    private static void noPointLeavesThePlace(int curve) {
        for (int held = 0; held < 2; held++) {
            CurveSuite x = threePoints(held);
            Check.load(x, Check.PUBLIC, code(curve, BigInteger.ONE, 1));
            for (int place = 0; place < 3; place++) {
                Check.same("no point", false, x.point(curve, place));
            }
            Check.load(x, Check.PUBLIC, Check.filled(57, 255));
            for (int place = 0; place < 3; place++) {
                Check.same("no point", false, x.point(curve, place));
            }
            checkPlaces("no point", x, held, threePointsDue(held));
        }
    }

    /** "comes to a place": over a point that was reckoned, of either curve, as over one that came from its code. */
    private static void pointOverASum(int curve) {
        for (int held = 0; held < 2; held++) {
            CurveSuite x = threePoints(held);
            x.put(Check.SECRET, 0, 11, 1);
            x.times(1, 0);
            x.add(0, 0, 1, true);
            place(x, curve, REFERENCES[curve].base, 0);
            place(x, curve, REFERENCES[curve].base, 1);
            Check.same("the point", codeOf(curve, REFERENCES[curve].base), Check.code(x, 0));
            Check.same("the point", codeOf(curve, REFERENCES[curve].base), Check.code(x, 1));
            Check.same("is the same", true, x.same(0, 1));
            x.add(2, 0, 1, false);
            Check.same("its double", codeOf(curve, threePointsDue(curve)[1]), Check.code(x, 2));
        }
    }

    /** "IllegalArgumentException: no such curve or place". */
    private static void pointRefused(int curve) {
        CurveSuite x = threePoints(curve);
        Check.load(x, Check.PUBLIC, neutralCode(curve));
        x.hash(true, 9);
        for (int wrong : Check.outside(0, 1)) {
            for (int place = 0; place < 3; place++) {
                int at = place;
                Check.illegal("point on curve " + wrong, () -> x.point(wrong, at));
            }
            Check.illegal("point on curve " + wrong + " to no place", () -> x.point(wrong, -1));
            Check.illegal("point on curve " + wrong + " to no place", () -> x.point(wrong, 3));
        }
        for (int wrong : Check.outside(0, 2)) {
            Check.illegal("point to place " + wrong, () -> x.point(curve, wrong));
        }
        Check.same("OUT is left", 9, x.size());
        checkPlaces("a refused point", x, curve, threePointsDue(curve));
        for (int place = 0; place < 3; place++) {
            Check.same("the next point", true, x.point(curve, place));
            Check.same("the next point", 1, x.order(place, 0));
        }
    }

    /** "The sum of the points at two places (less: their difference)", one of them or both neutral. */
    private static void sumsWithTheNeutralOne(int curve) {
        Reference ref = REFERENCES[curve];
        for (Reference.P point : threePointsDue(curve)) {
            CurveSuite x = new CurveSuite();
            place(x, curve, point, 0);
            place(x, curve, Reference.NEUTRAL, 1);
            x.add(2, 0, 1, false);
            Check.same("P and O", codeOf(curve, point), Check.code(x, 2));
            x.add(2, 1, 0, false);
            Check.same("O and P", codeOf(curve, point), Check.code(x, 2));
            x.add(2, 0, 1, true);
            Check.same("P less O", codeOf(curve, point), Check.code(x, 2));
            x.add(2, 1, 0, true);
            Check.same("O less P", codeOf(curve, ref.negate(point)), Check.code(x, 2));
            x.add(2, 1, 1, false);
            Check.same("O and O", neutralCode(curve), Check.code(x, 2));
            x.add(2, 1, 1, true);
            Check.same("O less O", neutralCode(curve), Check.code(x, 2));
        }
    }

    /** The same of a point with itself and with its opposite: those for which many formulas fail. */
    private static void sumsOfAPointWithItself(int curve) {
        Reference ref = REFERENCES[curve];
        for (Reference.P point : threePointsDue(curve)) {
            CurveSuite x = new CurveSuite();
            place(x, curve, point, 0);
            place(x, curve, ref.negate(point), 1);
            x.add(2, 0, 0, false);
            Check.same("P and P", codeOf(curve, ref.add(point, point)), Check.code(x, 2));
            x.add(2, 0, 1, true);
            Check.same("P less -P", codeOf(curve, ref.add(point, point)), Check.code(x, 2));
            x.add(2, 0, 0, true);
            Check.same("P less P", neutralCode(curve), Check.code(x, 2));
            x.add(2, 0, 1, false);
            Check.same("P and -P", neutralCode(curve), Check.code(x, 2));
        }
    }

    /** The same of points that were reckoned themselves. */
    private static void sumsOfSums(int curve) {
        Reference ref = REFERENCES[curve];
        CurveSuite x = threePoints(curve);
        Reference.P[] due = threePointsDue(curve);
        for (int i = 0; i < 12; i++) {
            int to = i % 3;
            int b = (i + 1) % 3;
            x.add(to, to, b, i % 2 == 0);
            due[to] = ref.add(due[to], i % 2 == 0 ? ref.negate(due[b]) : due[b]);
        }
        checkPlaces("sums of sums", x, curve, due);
    }

    /** "comes to a third one": which may be one of the two, or both of them. */
    private static void sumsToOneOfTheTwo(int curve) {
        Reference ref = REFERENCES[curve];
        for (int a = 0; a < 3; a++) {
            for (int b = 0; b < 3; b++) {
                for (int to = 0; to < 3; to++) {
                    for (boolean less : new boolean[] {false, true}) {
                        Reference.P[] due = threePointsDue(curve);
                        CurveSuite x = threePoints(curve);
                        x.add(to, a, b, less);
                        due[to] = ref.add(due[a], less ? ref.negate(due[b]) : due[b]);
                        checkPlaces("add(" + to + ", " + a + ", " + b + ", " + less + ")", x, curve, due);
                    }
                }
            }
        }
    }

    /** "the two are not of one curve": of the third place nothing is asked. */
    private static void sumToAPlaceOfTheOtherCurve(int curve) {
        CurveSuite x = new CurveSuite();
        place(x, curve, REFERENCES[curve].base, 0);
        place(x, curve, REFERENCES[curve].base, 1);
        place(x, 1 - curve, REFERENCES[1 - curve].base, 2);
        x.add(2, 0, 1, true);
        Check.same("the curve of the sum", curve, x.order(2, 2));
        Check.same("the neutral one of that curve", neutralCode(curve), Check.code(x, 2));
    }

    /** "IllegalArgumentException: no such place". */
    private static void addRefused(int curve) {
        CurveSuite x = threePoints(curve);
        x.hash(true, 9);
        for (int wrong : Check.outside(0, 2)) {
            for (boolean less : new boolean[] {false, true}) {
                Check.illegal("add to " + wrong, () -> x.add(wrong, 0, 1, less));
                Check.illegal("add of " + wrong, () -> x.add(0, wrong, 1, less));
                Check.illegal("add of " + wrong, () -> x.add(0, 1, wrong, less));
                Check.illegal("add of " + wrong + " alone", () -> x.add(wrong, wrong, wrong, less));
            }
        }
        Check.same("OUT is left", 9, x.size());
        checkPlaces("a refused sum", x, curve, threePointsDue(curve));
    }

    /** "IllegalStateException: the two are not of one curve": whichever comes first, neutral or not. */
    private static void addOfTwoCurves() {
        for (int curve = 0; curve < 2; curve++) {
            for (int to = 0; to < 3; to++) {
                int third = to;
                int other = 1 - curve;
                for (boolean less : new boolean[] {false, true}) {
                    CurveSuite x = new CurveSuite();
                    place(x, curve, REFERENCES[curve].base, 0);
                    place(x, other, REFERENCES[other].base, 1);
                    place(x, other, Reference.NEUTRAL, 2);
                    Check.wrongState("two curves", () -> x.add(third, 0, 1, less));
                    Check.wrongState("two curves", () -> x.add(third, 1, 0, less));
                    Check.wrongState("two curves, one neutral", () -> x.add(third, 0, 2, less));
                    Check.wrongState("two curves, one neutral", () -> x.add(third, 2, 0, less));
                    Check.same("0 is left", codeOf(curve, REFERENCES[curve].base), Check.code(x, 0));
                    Check.same("1 is left", codeOf(other, REFERENCES[other].base), Check.code(x, 1));
                    Check.same("2 is left", neutralCode(other), Check.code(x, 2));
                    x.add(third, 1, 2, less);
                    Check.same("the next sum", codeOf(other, REFERENCES[other].base), Check.code(x, third));
                }
            }
        }
        CurveSuite x = new CurveSuite();
        place(x, 1, Reference.NEUTRAL, 1);
        Check.wrongState("the neutral ones of two curves", () -> x.add(2, 0, 1, false));
        x.add(2, 0, 0, false);
        Check.same("the neutral one at first", 0, x.order(2, 2));
    }

    /** Without a place there is no point at it whose curve could be another: IllegalArgumentException. */
    private static void addOfTwoCurvesWithoutAPlace() {
        CurveSuite x = new CurveSuite();
        place(x, 1, REFERENCES[1].base, 1);
        for (int wrong : Check.outside(0, 2)) {
            Check.illegal("two curves, to no place", () -> x.add(wrong, 0, 1, false));
            Check.illegal("two curves, to no place", () -> x.add(wrong, 1, 0, true));
            Check.illegal("no place and another", () -> x.add(0, wrong, 1, false));
            Check.illegal("no place and another", () -> x.add(0, 1, wrong, true));
        }
    }

    private static void checkProduct(String what, int curve, byte[] secret, Reference.P point, Reference.P due) {
        CurveSuite x = Check.suite(secret, null, null);
        place(x, curve, point, 1);
        x.times(2, 1);
        Check.same(what + ": the curve", curve, x.order(2, 2));
        Check.same(what, codeOf(curve, due), Check.code(x, 2));
        Check.same(what + ": the point stays", codeOf(curve, point), Check.code(x, 1));
    }

    /** "A number that multiplies is SECRET's first 32 or 57 bytes (...) as they are": from 0 to the greatest. */
    private static void productsAtTheEnds(int curve) {
        Reference ref = REFERENCES[curve];
        BigInteger last = BigInteger.TWO.pow(8 * bytes(curve)).subtract(BigInteger.ONE);
        for (Reference.P point : threePointsDue(curve)) {
            checkProduct("0 times", curve, new byte[57], point, Reference.NEUTRAL);
            Reference.P due = Reference.NEUTRAL;
            for (int n = 1; n <= 17; n++) {
                due = ref.add(due, point);
                checkProduct(n + " times", curve, Reference.lowestFirst(BigInteger.valueOf(n), 57), point, due);
            }
            checkProduct("all bits set", curve, Check.filled(57, 255), point, ref.times(last, point));
            checkProduct("one less", curve, Reference.lowestFirst(last.subtract(BigInteger.ONE), 57), point,
                    ref.times(last.subtract(BigInteger.ONE), point));
        }
    }

    /** "as they are": the order times a point of the group is neutral, and the numbers beside it go on from there. */
    private static void productsAboutTheOrder(int curve) {
        Reference ref = REFERENCES[curve];
        for (int by = -2; by <= 2; by++) {
            BigInteger n = ref.order.add(BigInteger.valueOf(by));
            Reference.P due = ref.times(BigInteger.valueOf(Math.abs(by)), ref.base);
            checkProduct("the order and " + by, curve, Reference.lowestFirst(n, 57), ref.base, by < 0 ? ref.negate(due) : due);
        }
        Reference.P small = ref.smallGenerator();
        checkProduct("the order times a small point", curve, Reference.lowestFirst(ref.order, 57), small,
                ref.times(ref.order.mod(BigInteger.valueOf(ref.cofactor)), small));
        BigInteger whole = ref.order.multiply(BigInteger.valueOf(ref.cofactor));
        checkProduct("the whole group's order", curve, Reference.lowestFirst(whole, 57), ref.add(ref.base, small), Reference.NEUTRAL);
    }

    /** "the lowest first": a single bit, each of them up to the highest, is so many doublings. */
    private static void productWithOneBit(int curve) {
        CurveSuite sums = new CurveSuite();
        place(sums, curve, REFERENCES[curve].base, 0);
        for (int bit = 0; bit < 8 * bytes(curve); bit++) {
            if (bit % 19 == 0 || bit == 8 * bytes(curve) - 1) {
                CurveSuite x = new CurveSuite();
                place(x, curve, REFERENCES[curve].base, 0);
                x.put(Check.SECRET, bit / 8, 1 << bit % 8, 1);
                x.times(1, 0);
                sums.code(0);
                sums.move(Check.PUBLIC);
                x.code(1);
                for (int i = 0; i < bytes(curve); i += 31) {
                    Check.same("bit " + bit, sums.look(Check.PUBLIC, i), x.look(Check.OUT, i));
                }
            }
            if (bit % 100 == 99) {
                CurveSuite next = new CurveSuite();
                Check.load(next, Check.PUBLIC, Check.code(sums, 0));
                Check.same("go on with another object", true, next.point(curve, 0));
                sums = next;
            }
            sums.add(0, 0, 0, false);
        }
    }

    /** "SECRET's first 32 or 57 bytes". */
    private static void timesTakesTheFirstBytes(int curve) {
        Reference ref = REFERENCES[curve];
        byte[] secret = Check.filled(57, 255);
        Arrays.fill(secret, 0, bytes(curve), (byte) 0);
        checkProduct("only bytes behind the number", curve, secret, ref.base, Reference.NEUTRAL);
        byte[] last = new byte[57];
        last[bytes(curve) - 1] = 1;
        checkProduct("the last byte of the number", curve, last, ref.base,
                ref.times(BigInteger.TWO.pow(8 * bytes(curve) - 8), ref.base));
    }

    /** The neutral one stays that, of its curve. */
    private static void productOfTheNeutralOne(int curve) {
        for (byte[] secret : new byte[][] {new byte[57], Check.filled(57, 255), Check.random(new Random(700), 57)}) {
            checkProduct("a product of the neutral one", curve, secret, Reference.NEUTRAL, Reference.NEUTRAL);
        }
    }

    /** "comes to another one": which may be its own place, or one of the other curve. */
    private static void productToItsOwnPlace(int curve) {
        Reference ref = REFERENCES[curve];
        for (int a = 0; a < 3; a++) {
            for (int to = 0; to < 3; to++) {
                CurveSuite x = threePoints(curve);
                x.put(Check.SECRET, 0, 3, 1);
                x.times(to, a);
                Reference.P[] due = threePointsDue(curve);
                due[to] = ref.times(BigInteger.valueOf(3), due[a]);
                checkPlaces("times(" + to + ", " + a + ")", x, curve, due);
            }
        }
        CurveSuite x = new CurveSuite();
        place(x, curve, ref.base, 0);
        place(x, 1 - curve, REFERENCES[1 - curve].base, 1);
        x.times(1, 0);
        Check.same("0 times, to a place of the other curve", curve, x.order(1, 2));
        Check.same("0 times, to a place of the other curve", neutralCode(curve), Check.code(x, 1));
    }

    /** "IllegalArgumentException: no such place". */
    private static void timesRefused(int curve) {
        CurveSuite x = threePoints(curve);
        x.hash(true, 9);
        for (int wrong : Check.outside(0, 2)) {
            for (int place = 0; place < 3; place++) {
                int at = place;
                Check.illegal("times to " + wrong, () -> x.times(wrong, at));
                Check.illegal("times of " + wrong, () -> x.times(at, wrong));
            }
            Check.illegal("times of " + wrong + " alone", () -> x.times(wrong, wrong));
        }
        Check.same("OUT is left", 9, x.size());
        checkPlaces("a refused product", x, curve, threePointsDue(curve));
    }

    /** "The code of the point at a place: to OUT": of y 0, 1 and -1, with x 0 and with both signs; 32 or 57 bytes. */
    private static void codeOfLeastAndGreatest(int curve) {
        BigInteger p = REFERENCES[curve].p;
        byte[][] codes = {code(curve, BigInteger.ZERO, 0), code(curve, BigInteger.ZERO, 1), neutralCode(curve),
            code(curve, p.subtract(BigInteger.ONE), 0)};
        for (byte[] code : codes) {
            CurveSuite x = Check.suite(null, code, null);
            Check.same("point", true, x.point(curve, 0));
            x.hash(true, 114);
            x.code(0);
            Check.same("size", bytes(curve), x.size());
            Check.same("code", code, Check.out(x));
            x.put(Check.SECRET, 0, 5, 1);
            x.times(1, 0);
            Check.same("code of what is reckoned", code, Check.code(x, 1));
        }
    }

    /** "IllegalArgumentException: no such place": OUT stays what the latest call gave. */
    private static void codeRefused(int curve) {
        CurveSuite x = threePoints(curve);
        byte[] due = Check.code(x, 2);
        for (int wrong : Check.outside(0, 2)) {
            Check.illegal("code of " + wrong, () -> x.code(wrong));
        }
        Check.same("OUT is left", due, Check.out(x));
        checkPlaces("a refused code", x, curve, threePointsDue(curve));
    }

    /** "Whether two places have the same point": one place with itself, and one point that came on two ways. */
    private static void sameOfOnePoint(int curve) {
        CurveSuite x = threePoints(curve);
        for (int a = 0; a < 3; a++) {
            for (int b = 0; b < 3; b++) {
                Check.same("same(" + a + ", " + b + ")", a == b, x.same(a, b));
            }
        }
        x.add(0, 0, 0, false);
        Check.same("a double", true, x.same(0, 1));
        x.put(Check.SECRET, 0, 9, 1);
        x.times(0, 2);
        x.add(0, 0, 2, true);
        x.add(1, 2, 2, true);
        Check.same("eight times a point of small order is neutral", true, x.same(0, 1));
        Check.same("and is not that point", false, x.same(0, 2));
    }

    /** The same of points that have one coordinate in common, x or y. */
    private static void sameOfNearlyTheSame(int curve) {
        Reference ref = REFERENCES[curve];
        BigInteger minusY = ref.p.subtract(ref.base.y());
        Reference.P[] others = {ref.negate(ref.base), new Reference.P(ref.base.x(), minusY),
            new Reference.P(ref.negate(ref.base).x(), minusY)};
        for (Reference.P other : others) {
            CurveSuite x = new CurveSuite();
            place(x, curve, ref.base, 0);
            place(x, curve, other, 1);
            Check.same("one coordinate in common", false, x.same(0, 1));
            Check.same("one coordinate in common", false, x.same(1, 0));
        }
        CurveSuite x = new CurveSuite();
        place(x, curve, Reference.NEUTRAL, 0);
        place(x, curve, new Reference.P(BigInteger.ZERO, ref.p.subtract(BigInteger.ONE)), 1);
        Check.same("x of 0 in common", false, x.same(0, 1));
    }

    /** "(of the same curve)": the neutral ones have the same coordinates, and so have those with y 0 the same y. */
    private static void sameOfTwoCurves() {
        CurveSuite x = new CurveSuite();
        place(x, 1, Reference.NEUTRAL, 1);
        Check.same("neutral ones of two curves", false, x.same(0, 1));
        Check.same("neutral ones of two curves", false, x.same(1, 0));
        Check.same("neutral ones of one curve", true, x.same(0, 2));
        place(x, 1, Reference.NEUTRAL, 0);
        Check.same("neutral ones of the other curve", true, x.same(0, 1));
        CurveSuite y = new CurveSuite();
        Check.same("y of 0", true, y.point(0, 0) && y.point(1, 1));
        Check.same("y of 0 on two curves", false, y.same(0, 1));
    }

    /** "IllegalArgumentException: no such place". */
    private static void sameRefused(int curve) {
        CurveSuite x = threePoints(curve);
        x.hash(true, 9);
        for (int wrong : Check.outside(0, 2)) {
            for (int place = 0; place < 3; place++) {
                int at = place;
                Check.illegal("same of " + wrong, () -> x.same(wrong, at));
                Check.illegal("same of " + wrong, () -> x.same(at, wrong));
            }
            Check.illegal("same of " + wrong + " with itself", () -> x.same(wrong, wrong));
        }
        Check.same("OUT is left", 9, x.size());
        checkPlaces("a refused same", x, curve, threePointsDue(curve));
    }

    /** "the smallest of 1, 2, 4, 8 times which it is that": every point of small order has its own. */
    private static void ordersThatAreSmall(int curve) {
        Reference ref = REFERENCES[curve];
        Reference.P small = ref.smallGenerator();
        int[] due = curve == 0 ? new int[] {1, 8, 4, 8, 2, 8, 4, 8} : new int[] {1, 4, 2, 4};
        for (int i = 0; i < due.length; i++) {
            CurveSuite x = new CurveSuite();
            place(x, curve, ref.times(BigInteger.valueOf(i), small), 2);
            Check.same("whether neutral", i == 0 ? 1 : 0, x.order(2, 0));
            Check.same("the order of " + i + " times", due[i], x.order(2, 1));
            Check.same("the curve", curve, x.order(2, 2));
            x.put(Check.SECRET, 0, due[i], 1);
            x.times(1, 2);
            Check.same("so many times is neutral", 1, x.order(1, 0));
        }
    }

    /** "0 when none of these": of the base point, and of points that are one of small order beside it. */
    private static void ordersThatAreNotSmall(int curve) {
        Reference ref = REFERENCES[curve];
        Reference.P small = ref.smallGenerator();
        for (int i = 0; i < ref.cofactor; i++) {
            CurveSuite x = new CurveSuite();
            place(x, curve, ref.add(ref.base, ref.times(BigInteger.valueOf(i), small)), 0);
            Check.same("whether neutral", 0, x.order(0, 0));
            Check.same("no small order", 0, x.order(0, 1));
            x.add(1, 0, 0, true);
            Check.same("less itself", 1, x.order(1, 1));
            Check.load(x, Check.SECRET, Reference.lowestFirst(ref.order, 57));
            x.times(2, 0);
            int due = curve == 0 ? new int[] {1, 8, 4, 8, 2, 8, 4, 8}[i] : new int[] {1, 4, 2, 4}[i];
            Check.same("the order times it", due, x.order(2, 1));
        }
    }

    /** "IllegalArgumentException: no such place or what". */
    private static void orderRefused(int curve) {
        CurveSuite x = threePoints(curve);
        x.hash(true, 9);
        for (int wrong : Check.outside(0, 2)) {
            for (int right = 0; right < 3; right++) {
                int other = right;
                Check.illegal("order at " + wrong, () -> x.order(wrong, other));
                Check.illegal("order of what " + wrong, () -> x.order(other, wrong));
            }
            Check.illegal("order at " + wrong + " of what " + wrong, () -> x.order(wrong, wrong));
        }
        Check.same("OUT is left", 9, x.size());
        checkPlaces("a refused order", x, curve, threePointsDue(curve));
    }
}
