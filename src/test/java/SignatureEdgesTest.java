import java.math.BigInteger;
import java.security.GeneralSecurityException;
import java.util.Arrays;
import java.util.Random;

/** The edges of promises 10 to 12; above each test stand the document's words that it holds the program to. */
public final class SignatureEdgesTest {
    private static final Reference[] REFERENCES = {new Reference(0), new Reference(1)};
    private static final byte[] NONE = new byte[0];

    public static void main(String[] args) throws GeneralSecurityException {
        for (int curve = 0; curve < 2; curve++) {
            deriveTakesTheFirstBytes(curve);
            deriveOfLeastAndGreatestSecrets(curve);
            deriveRefused(curve);
            signOfEmptyAndFull(curve);
            signOfShorterTexts(curve);
            signTakesTheFirstBytes(curve);
            signLooksNotAtPublic(curve);
            signRefused(curve);
            verifyOfEmptyAndFull(curve);
            coordinateBelowThePrime(curve);
            bitsAboveTheCoordinate(curve);
            xIsThere(curve);
            xOfZeroWithSign(curve);
            secondHalfBelowTheOrder(curve);
            secondHalfAndTheOrder(curve);
            smallOrderAlone(curve);
            smallOrderBesideOthers(curve);
            verifyTakesTheFirstBytes(curve);
            verifyLeavesOutEmpty(curve);
            verifyAtFirst(curve);
            verifyRefused(curve);
        }
        emptyContextIsNoContext();
        contextOfZerosIsOne();
        phIsNotTheHashSigned();
        Check.finish();
    }

    private static int bytes(int curve) {
        return REFERENCES[curve].bytes;
    }

    private static byte[] someSecret() {
        return Check.random(new Random(600), 57);
    }

    private static byte[] derive(int curve, byte[] secret) {
        CurveSuite x = Check.suite(secret, null, null);
        x.derive(curve);
        Check.same("size of a key", bytes(curve), x.size());
        return Check.out(x);
    }

    private static byte[] sign(int curve, byte[] secret, byte[] message, byte[] context, boolean ph) {
        CurveSuite x = Check.suite(secret, null, null);
        Check.feed(x, false, message);
        Check.feed(x, true, context);
        x.sign(curve, ph);
        Check.same("size of a signature", 2 * bytes(curve), x.size());
        return Check.out(x);
    }

    private static boolean verify(int curve, byte[] signature, byte[] key, byte[] message, byte[] context, boolean ph) {
        CurveSuite x = Check.suite(null, key, signature);
        Check.feed(x, false, message);
        Check.feed(x, true, context);
        return x.verify(curve, ph);
    }

    /** Verifies a signature of an empty MESSAGE in its parts. */
    private static boolean verify(int curve, byte[] first, BigInteger second, byte[] key) {
        byte[] signature = Check.join(first, Reference.lowestFirst(second, bytes(curve)));
        return verify(curve, signature, key, NONE, NONE, false);
    }

    /** With 0 as second half, and the neutral point beside it, a code of small order verifies if it is a code at all. */
    private static void checkSmallCode(String what, int curve, byte[] code, boolean due) {
        byte[] neutral = REFERENCES[curve].encode(Reference.NEUTRAL);
        Check.same(what + " as first half: " + Check.hex(code), due, verify(curve, code, BigInteger.ZERO, neutral));
        Check.same(what + " as key: " + Check.hex(code), due, verify(curve, neutral, BigInteger.ZERO, code));
    }

    private static byte[] code(int curve, BigInteger y, int sign) {
        byte[] code = Reference.lowestFirst(y, bytes(curve));
        code[bytes(curve) - 1] ^= (byte) (sign << 7);
        return code;
    }

    private static byte[] changed(byte[] bytes, int at) {
        byte[] other = bytes.clone();
        other[at] ^= 1;
        return other;
    }

    /** "What is taken from a register is its first bytes": 32, or all 57. */
    private static void deriveTakesTheFirstBytes(int curve) {
        byte[] due = derive(curve, someSecret());
        for (int i : new int[] {0, 30, 31, 32, 33, 55, 56}) {
            Check.same("byte " + i + " of SECRET", i >= bytes(curve), Arrays.equals(due, derive(curve, changed(someSecret(), i))));
        }
    }

    /** "keys (...) as in sections 5.1 and 5.2": of a SECRET of zeros, and of one with all bits set. */
    private static void deriveOfLeastAndGreatestSecrets(int curve) {
        byte[] zeros = new byte[57];
        byte[] ones = Check.filled(57, 255);
        Check.same("the key of zeros", Check.bytes(curve == 0
                ? "3b6a27bcceb6a42d62a3a8d02a6f0d73653215771de243a63ac048a18b59da29"
                : "5b3afe03878a49b28232d4f1a442aebde109f807acef7dfd9a7f65b962fe52d6547312cacecff04337508f9d2529a8f1669169b21c32c48000"),
                derive(curve, zeros));
        Check.same("the key of zeros", REFERENCES[curve].derive(zeros), derive(curve, zeros));
        Check.same("the key of ones", REFERENCES[curve].derive(ones), derive(curve, ones));
    }

    /** "IllegalArgumentException: no such curve": OUT stays what the latest call gave. */
    private static void deriveRefused(int curve) {
        CurveSuite x = Check.suite(someSecret(), null, null);
        x.derive(curve);
        byte[] due = Check.out(x);
        for (int wrong : Check.outside(0, 1)) {
            Check.illegal("derive on curve " + wrong, () -> x.derive(wrong));
        }
        Check.same("OUT is left", due, Check.out(x));
        x.derive(1 - curve);
        x.derive(curve);
        Check.same("the next key", due, Check.out(x));
    }

    /** "MESSAGE has up to 256 bytes, CONTEXT up to 64": both empty, of one byte, all but full, full; plain and ph. */
    private static void signOfEmptyAndFull(int curve) throws GeneralSecurityException {
        for (int m : new int[] {0, 1, 255, 256}) {
            for (int c : new int[] {0, 1, 63, 64}) {
                for (boolean ph : new boolean[] {false, true}) {
                    byte[] message = Check.random(new Random(m), m);
                    byte[] context = Check.random(new Random(c), c);
                    Check.same("sign of " + m + " bytes in a context of " + c,
                            JavaSigner.sign(curve, someSecret(), message, context, ph),
                            sign(curve, someSecret(), message, context, ph));
                }
            }
        }
        for (byte[] secret : new byte[][] {new byte[57], Check.filled(57, 255)}) {
            Check.same("sign by a strange secret", JavaSigner.sign(curve, secret, NONE, NONE, false),
                    sign(curve, secret, NONE, NONE, false));
        }
    }

    /** The same on one object, where the text before was longer, in another form, or on the other curve. */
    private static void signOfShorterTexts(int curve) throws GeneralSecurityException {
        for (boolean ph : new boolean[] {false, true}) {
            CurveSuite x = Check.suite(someSecret(), null, null);
            Check.feed(x, false, Check.filled(256, 7));
            Check.feed(x, true, Check.filled(64, 8));
            x.sign(curve, ph);
            x.sign(curve, !ph);
            x.sign(1 - curve, ph);
            for (int n : new int[] {1, 0}) {
                byte[] text = Check.filled(n, 9);
                for (boolean context : new boolean[] {false, true}) {
                    x.clear(context);
                    Check.feed(x, context, text);
                }
                x.sign(curve, !ph);
                x.sign(curve, ph);
                Check.same("sign of " + n + " bytes", JavaSigner.sign(curve, someSecret(), text, text, ph), Check.out(x));
            }
        }
    }

    /** "What is taken from a register is its first bytes": 32 of SECRET, or all 57. */
    private static void signTakesTheFirstBytes(int curve) {
        byte[] due = sign(curve, someSecret(), NONE, NONE, false);
        for (int i : new int[] {0, 31, 32, 56}) {
            Check.same("byte " + i + " of SECRET", i >= bytes(curve),
                    Arrays.equals(due, sign(curve, changed(someSecret(), i), NONE, NONE, false)));
        }
    }

    /** "A signature of MESSAGE by SECRET": PUBLIC and SIGNATURE have no part in it, and a second one is the same. */
    private static void signLooksNotAtPublic(int curve) {
        byte[] due = sign(curve, someSecret(), NONE, NONE, false);
        CurveSuite x = Check.suite(someSecret(), Check.filled(57, 255), Check.filled(114, 255));
        for (int again = 0; again < 2; again++) {
            x.sign(curve, false);
            Check.same("sign", due, Check.out(x));
        }
    }

    /** "IllegalArgumentException: no such curve": OUT stays what the latest call gave. */
    private static void signRefused(int curve) {
        CurveSuite x = Check.suite(someSecret(), null, null);
        x.sign(curve, true);
        byte[] due = Check.out(x);
        for (int wrong : Check.outside(0, 1)) {
            Check.illegal("sign on curve " + wrong, () -> x.sign(wrong, false));
            Check.illegal("sign on curve " + wrong, () -> x.sign(wrong, true));
        }
        Check.same("OUT is left", due, Check.out(x));
        x.sign(1 - curve, false);
        x.sign(curve, true);
        Check.same("the next signature", due, Check.out(x));
    }

    /** "with an empty CONTEXT Ed25519": also when it was not empty before. */
    private static void emptyContextIsNoContext() throws GeneralSecurityException {
        CurveSuite x = Check.suite(someSecret(), null, null);
        x.feed(true, 1, 1);
        x.clear(true);
        x.sign(0, false);
        Check.same("Ed25519", JavaSigner.sign(0, someSecret(), NONE, NONE, false), Check.out(x));
        x.sign(0, true);
        Check.same("Ed25519ph", JavaSigner.sign(0, someSecret(), NONE, NONE, true), Check.out(x));
    }

    /** "otherwise Ed25519ctx": a CONTEXT of one byte, be it 0, is not empty, and is another than one of two. */
    private static void contextOfZerosIsOne() throws GeneralSecurityException {
        for (int curve = 0; curve < 2; curve++) {
            byte[][] signatures = new byte[3][];
            for (int n = 0; n < 3; n++) {
                signatures[n] = sign(curve, someSecret(), NONE, new byte[n], false);
                Check.same("a context of zeros", JavaSigner.sign(curve, someSecret(), NONE, new byte[n], false), signatures[n]);
            }
            byte[] key = derive(curve, someSecret());
            for (int made = 0; made < 3; made++) {
                for (int asked = 0; asked < 3; asked++) {
                    Check.same("a context of zeros for another", made == asked,
                            verify(curve, signatures[made], key, NONE, new byte[asked], false));
                }
            }
        }
    }

    /** "(The hash of a message is SHA-512 of it, or 64 bytes of SHAKE256.)": but ph is still another form. */
    private static void phIsNotTheHashSigned() {
        for (int curve = 0; curve < 2; curve++) {
            byte[] key = derive(curve, someSecret());
            byte[] message = {1, 2, 3};
            byte[] hash = REFERENCES[curve].hash(message, 64);
            byte[] ofMessage = sign(curve, someSecret(), message, NONE, true);
            byte[] ofHash = sign(curve, someSecret(), hash, NONE, false);
            Check.same("ph of the message", true, verify(curve, ofMessage, key, message, NONE, true));
            Check.same("plain of the hash", true, verify(curve, ofHash, key, hash, NONE, false));
            Check.same("ph taken for plain of the hash", false, verify(curve, ofMessage, key, hash, NONE, false));
            Check.same("plain of the hash taken for ph", false, verify(curve, ofHash, key, message, NONE, true));
        }
    }

    /** "Whether SIGNATURE is one of MESSAGE for PUBLIC": with both texts empty and full, and a byte less. */
    private static void verifyOfEmptyAndFull(int curve) {
        byte[] key = derive(curve, someSecret());
        for (int m : new int[] {0, 256}) {
            for (int c : new int[] {0, 64}) {
                for (boolean ph : new boolean[] {false, true}) {
                    byte[] message = Check.random(new Random(m), m);
                    byte[] context = Check.random(new Random(c), c);
                    byte[] signature = sign(curve, someSecret(), message, context, ph);
                    Check.same("verify", true, verify(curve, signature, key, message, context, ph));
                    Check.same("verify as the other form", false, verify(curve, signature, key, message, context, !ph));
                    byte[] otherMessage = m == 0 ? new byte[1] : Arrays.copyOf(message, m - 1);
                    Check.same("another message", false, verify(curve, signature, key, otherMessage, context, ph));
                    byte[] otherContext = c == 0 ? new byte[1] : Arrays.copyOf(context, c - 1);
                    Check.same("another context", false, verify(curve, signature, key, message, otherContext, ph));
                    if (m > 0) {
                        Check.same("another last byte", false,
                                verify(curve, signature, key, changed(message, m - 1), context, ph));
                    }
                    if (c > 0) {
                        Check.same("another last byte of context", false,
                                verify(curve, signature, key, message, changed(context, c - 1), ph));
                    }
                }
            }
        }
    }

    /** "the coordinate below the prime": the prime less 1 is a code, the prime, and what is beyond it, is none. */
    private static void coordinateBelowThePrime(int curve) {
        BigInteger p = REFERENCES[curve].p;
        checkSmallCode("y of -1", curve, code(curve, p.subtract(BigInteger.ONE), 0), true);
        for (int sign = 0; sign < 2; sign++) {
            checkSmallCode("y of 0", curve, code(curve, BigInteger.ZERO, sign), true);
            checkSmallCode("y of 0, as the prime", curve, code(curve, p, sign), false);
            checkSmallCode("y of 1, as the prime and 1", curve, code(curve, p.add(BigInteger.ONE), sign), false);
        }
        checkSmallCode("y of 1", curve, code(curve, BigInteger.ONE, 0), true);
    }

    /** "all bits above it but the sign 0": curve 0 has no such bits, curve 1 has seven. */
    private static void bitsAboveTheCoordinate(int curve) {
        for (int bits = 0; bits < 128 && curve == 1; bits++) {
            for (int sign = 0; sign < 2; sign++) {
                byte[] ofZero = code(curve, BigInteger.ZERO, sign);
                ofZero[56] |= (byte) bits;
                checkSmallCode("bits above y", curve, ofZero, bits == 0);
            }
            byte[] ofOne = code(curve, BigInteger.ONE, 0);
            ofOne[56] |= (byte) bits;
            checkSmallCode("bits above y", curve, ofOne, bits == 0);
        }
    }

    /** "x there". */
    private static void xIsThere(int curve) {
        int without = 0;
        for (int y = 2; y < 30; y++) {
            byte[] code = code(curve, BigInteger.valueOf(y), 0);
            if (REFERENCES[curve].decode(code) == null) {
                without++;
                checkSmallCode("y without x", curve, code, false);
                checkSmallCode("y without x", curve, code(curve, BigInteger.valueOf(y), 1), false);
            }
        }
        Check.same("some have no x", true, without > 5);
    }

    /** "and not 0 with the sign 1". */
    private static void xOfZeroWithSign(int curve) {
        for (BigInteger y : new BigInteger[] {BigInteger.ONE, REFERENCES[curve].p.subtract(BigInteger.ONE)}) {
            checkSmallCode("x of 0", curve, code(curve, y, 0), true);
            checkSmallCode("x of 0 with the sign", curve, code(curve, y, 1), false);
        }
    }

    /** "its second half S is below the group's order": with the neutral point as key, S B has to be R. */
    private static void secondHalfBelowTheOrder(int curve) {
        Reference ref = REFERENCES[curve];
        byte[] neutral = ref.encode(Reference.NEUTRAL);
        byte[] minusBase = ref.encode(ref.negate(ref.base));
        byte[] base = ref.encode(ref.base);
        BigInteger end = BigInteger.TWO.pow(8 * bytes(curve));
        Check.same("S of 0", true, verify(curve, neutral, BigInteger.ZERO, neutral));
        Check.same("S of 1", true, verify(curve, base, BigInteger.ONE, neutral));
        Check.same("S of the order less 1", true, verify(curve, minusBase, ref.order.subtract(BigInteger.ONE), neutral));
        Check.same("S of the order", false, verify(curve, neutral, ref.order, neutral));
        Check.same("S of the order and 1", false, verify(curve, base, ref.order.add(BigInteger.ONE), neutral));
        BigInteger most = end.divide(ref.order).multiply(ref.order);
        Check.same("S of the greatest multiple of the order", false, verify(curve, neutral, most, neutral));
        BigInteger last = end.subtract(BigInteger.ONE);
        Check.same("S of all bits", false, verify(curve, ref.encode(ref.times(last, ref.base)), last, neutral));
        Reference.P point = ref.base;
        for (int at = 0; at < 8 * bytes(curve); at++) {
            BigInteger s = BigInteger.TWO.pow(at);
            Check.same("S of 2^" + at, s.compareTo(ref.order) < 0, verify(curve, ref.encode(point), s, neutral));
            point = ref.add(point, point);
        }
    }

    /** The same with a signature as it is made: S and the order together are refused, for every multiple that fits. */
    private static void secondHalfAndTheOrder(int curve) {
        Reference ref = REFERENCES[curve];
        byte[] key = derive(curve, someSecret());
        byte[] signature = sign(curve, someSecret(), NONE, NONE, false);
        byte[] first = Arrays.copyOf(signature, bytes(curve));
        BigInteger s = Reference.number(Arrays.copyOfRange(signature, bytes(curve), 2 * bytes(curve)));
        Check.same("S as made is below the order", true, s.compareTo(ref.order) < 0);
        Check.same("S as made", true, verify(curve, first, s, key));
        Check.same("S and 1", false, verify(curve, first, s.add(BigInteger.ONE).mod(ref.order), key));
        int times = 0;
        for (BigInteger more = s.add(ref.order); more.bitLength() <= 8 * bytes(curve) && times < 20; more = more.add(ref.order)) {
            Check.same("S and the order", false, verify(curve, first, more, key));
            times++;
        }
        Check.same("some multiples fit", true, times >= 14);
    }

    /** "c S B = c R + c k A (so a point of small order makes no difference)": R and A of small order, each of them. */
    private static void smallOrderAlone(int curve) {
        Reference ref = REFERENCES[curve];
        Reference.P small = ref.smallGenerator();
        for (int i = 0; i < ref.cofactor; i++) {
            for (int j = 0; j < ref.cofactor; j++) {
                byte[] first = ref.encode(ref.times(BigInteger.valueOf(i), small));
                byte[] key = ref.encode(ref.times(BigInteger.valueOf(j), small));
                Check.same("S of 0", true, verify(curve, first, BigInteger.ZERO, key));
                Check.same("S of 1", false, verify(curve, first, BigInteger.ONE, key));
                Check.same("S of the cofactor", false, verify(curve, first, BigInteger.valueOf(ref.cofactor), key));
            }
        }
    }

    /** The same with points of small order added to R and to A of a signature; another point does make a difference. */
    private static void smallOrderBesideOthers(int curve) {
        Reference ref = REFERENCES[curve];
        Reference.P small = ref.smallGenerator();
        BigInteger number = ref.secretNumber(someSecret());
        BigInteger r = new BigInteger(240, new Random(601));
        for (int i = 0; i < ref.cofactor; i++) {
            Reference.P firstPoint = ref.add(ref.times(r, ref.base), ref.times(BigInteger.valueOf(i), small));
            Reference.P keyPoint = ref.add(ref.times(number, ref.base), ref.times(BigInteger.valueOf(ref.cofactor - 1 - i), small));
            byte[] first = ref.encode(firstPoint);
            byte[] key = ref.encode(keyPoint);
            BigInteger s = r.add(ref.challenge(first, key, NONE, NONE, false).multiply(number)).mod(ref.order);
            Check.same("points of small order", true, verify(curve, first, s, key));
            byte[] other = ref.encode(ref.add(firstPoint, ref.base));
            BigInteger otherS = r.add(ref.challenge(other, key, NONE, NONE, false).multiply(number)).mod(ref.order);
            Check.same("the base point", false, verify(curve, other, otherS, key));
        }
    }

    /** "What is taken from a register is its first bytes": 64 of SIGNATURE and 32 of PUBLIC, or all. */
    private static void verifyTakesTheFirstBytes(int curve) {
        byte[] key = Arrays.copyOf(derive(curve, someSecret()), 57);
        byte[] signature = Arrays.copyOf(sign(curve, someSecret(), NONE, NONE, false), 114);
        for (int i = 0; i < 114; i++) {
            Check.same("byte " + i + " of SIGNATURE", i >= 2 * bytes(curve),
                    verify(curve, changed(signature, i), key, NONE, NONE, false));
        }
        for (int i = 0; i < 57; i++) {
            Check.same("byte " + i + " of PUBLIC", i >= bytes(curve),
                    verify(curve, signature, changed(key, i), NONE, NONE, false));
        }
    }

    /** "OUT is empty": whether it is verified, or is not, or can't be. */
    private static void verifyLeavesOutEmpty(int curve) {
        byte[] key = derive(curve, someSecret());
        CurveSuite x = Check.suite(someSecret(), key, null);
        x.sign(curve, false);
        x.move(Check.SIGNATURE);
        Check.same("verified", true, x.verify(curve, false));
        checkOutIsEmpty(x);
        x.hash(false, 0);
        Check.same("not verified", false, x.verify(curve, true));
        checkOutIsEmpty(x);
        x.hash(false, 0);
        x.put(Check.SIGNATURE, 2 * bytes(curve) - 1, 255, 1);
        Check.same("a second half beyond the order", false, x.verify(curve, false));
        checkOutIsEmpty(x);
        x.hash(false, 0);
        x.put(Check.PUBLIC, 0, -1, 8);
        Check.same("no key", false, x.verify(curve, false));
        checkOutIsEmpty(x);
    }

    private static void checkOutIsEmpty(CurveSuite x) {
        Check.same("size", 0, x.size());
        Check.outOfBounds("look into an empty OUT", () -> x.look(Check.OUT, 0));
        Check.same("move of an empty OUT", 0, x.move(Check.SECRET));
    }

    /** "all 0 at first": zeros are codes of points of order 4, and 0 is below the order. */
    private static void verifyAtFirst(int curve) {
        for (boolean ph : new boolean[] {false, true}) {
            CurveSuite x = new CurveSuite();
            Check.same("verify at first", true, x.verify(curve, ph));
        }
    }

    /** "IllegalArgumentException: no such curve": OUT is then not emptied. */
    private static void verifyRefused(int curve) {
        CurveSuite x = new CurveSuite();
        x.hash(false, 0);
        byte[] due = Check.out(x);
        for (int wrong : Check.outside(0, 1)) {
            Check.illegal("verify on curve " + wrong, () -> x.verify(wrong, false));
            Check.illegal("verify on curve " + wrong, () -> x.verify(wrong, true));
        }
        Check.same("OUT is left", due, Check.out(x));
        Check.same("the next verify", true, x.verify(curve, false));
        Check.same("empties OUT", 0, x.size());
    }
}
