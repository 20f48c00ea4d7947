import java.math.BigInteger;
import java.util.Arrays;
import java.util.Random;

/** The edges of promise 9; above each test stand the document's words that it holds the program to. */
public final class AgreementEdgesTest {
    private static final Reference[] REFERENCES = {new Reference(0), new Reference(1)};

    public static void main(String[] args) {
        for (int curve = 0; curve < 2; curve++) {
            secretBitsAreSetAndCleared(curve);
            onlyTheFirstBytesAreTaken(curve);
            highestBitOfKey(curve);
            keyBeyondThePrime(curve);
            keysAboutThePrime(curve);
            baseIsNineOrFive(curve);
            falseWithZeros(curve);
            trueWithOneByteThatIsNotZero(curve);
            refused(curve);
        }
        Check.finish();
    }

    private static int bytes(int curve) {
        return REFERENCES[curve].agreementBytes;
    }

    private static byte[] key(int curve, BigInteger u) {
        return Reference.lowestFirst(u, bytes(curve));
    }

    private static byte[] someSecret(int curve) {
        return Check.random(new Random(500 + curve), bytes(curve));
    }

    private static byte[] agree(int curve, byte[] secret, byte[] key) {
        CurveSuite x = Check.suite(secret, key, null);
        x.agree(curve, false);
        Check.same("size", bytes(curve), x.size());
        return Check.out(x);
    }

    private static byte[] agreeWithBase(int curve, byte[] secret) {
        CurveSuite x = Check.suite(secret, null, null);
        Check.same("agree with the base point", true, x.agree(curve, true));
        Check.same("size", bytes(curve), x.size());
        return Check.out(x);
    }

    private static byte[] withBit(byte[] bytes, int bit) {
        byte[] other = bytes.clone();
        other[bit / 8] ^= (byte) (1 << bit % 8);
        return other;
    }

    /** "bits of the secret set and cleared": the lowest 3 or 2, the highest, and the first ones beside them that matter. */
    private static void secretBitsAreSetAndCleared(int curve) {
        int lowest = curve == 0 ? 3 : 2;
        int highest = curve == 0 ? 253 : 446;
        int n = bytes(curve);
        for (byte[] secret : new byte[][] {new byte[n], Check.filled(n, 255), someSecret(curve)}) {
            byte[] due = REFERENCES[curve].agree(secret, key(curve, BigInteger.valueOf(curve == 0 ? 9 : 5)));
            Check.same("the agreement", due, agreeWithBase(curve, secret));
            for (int bit = 0; bit < 8 * n; bit += bit == lowest ? highest - lowest : 1) {
                boolean matters = bit >= lowest && bit <= highest;
                Check.same("bit " + bit + " of the secret", !matters,
                        Arrays.equals(due, agreeWithBase(curve, withBit(secret, bit))));
            }
        }
    }

    /** "What is taken from a register is its first bytes": 32 or 56 of 57. */
    private static void onlyTheFirstBytesAreTaken(int curve) {
        int n = bytes(curve);
        byte[] secret = Arrays.copyOf(someSecret(curve), 57);
        byte[] key = Arrays.copyOf(key(curve, BigInteger.valueOf(77)), 57);
        byte[] due = agree(curve, secret, key);
        for (int i = n; i < 57; i++) {
            Check.same("byte " + i + " of the secret", due, agree(curve, withBit(secret, 8 * i), key));
            Check.same("byte " + i + " of the key", due, agree(curve, secret, withBit(key, 8 * i + 7)));
        }
        Check.same("the last byte of the secret that is taken", false,
                Arrays.equals(due, agree(curve, withBit(secret, 8 * n - 8), key)));
        Check.same("the last byte of the key that is taken", false,
                Arrays.equals(due, agree(curve, secret, withBit(key, 8 * n - 8))));
    }

    /** "the highest bit of 32 bytes of PUBLIC left out": of 56 bytes it is not, nor is the next lower one of 32. */
    private static void highestBitOfKey(int curve) {
        byte[] secret = someSecret(curve);
        for (byte[] key : new byte[][] {key(curve, BigInteger.valueOf(9)), Check.filled(bytes(curve), 255),
            Check.random(new Random(501), bytes(curve))}) {
            byte[] due = agree(curve, secret, key);
            Check.same("the highest bit", curve == 0,
                    Arrays.equals(due, agree(curve, secret, withBit(key, 8 * bytes(curve) - 1))));
            Check.same("the bit below it", false,
                    Arrays.equals(due, agree(curve, secret, withBit(key, 8 * bytes(curve) - 2))));
        }
    }

    /** "u may be beyond the prime": it stands for its rest, up to the last number that the bytes hold. */
    private static void keyBeyondThePrime(int curve) {
        Reference ref = REFERENCES[curve];
        byte[] secret = someSecret(curve);
        for (int rest = 0; rest < 19; rest++) {
            BigInteger u = BigInteger.valueOf(rest);
            Check.same("the prime and " + rest, agree(curve, secret, key(curve, u)),
                    agree(curve, secret, key(curve, ref.p.add(u))));
        }
        BigInteger last = BigInteger.TWO.pow(curve == 0 ? 255 : 448).subtract(BigInteger.ONE);
        Check.same("the last u", agree(curve, secret, key(curve, last.subtract(ref.p))),
                agree(curve, secret, key(curve, last)));
        Check.same("the last u, with all bits set", agree(curve, secret, key(curve, last)),
                agree(curve, secret, Check.filled(bytes(curve), 255)));
    }

    /** The same against the reckoning by BigInteger, on both sides of the prime. */
    private static void keysAboutThePrime(int curve) {
        Reference ref = REFERENCES[curve];
        byte[] secret = someSecret(curve);
        for (int by = -3; by <= 3; by++) {
            byte[] key = key(curve, ref.p.add(BigInteger.valueOf(by)));
            Check.same("the prime and " + by, ref.agree(secret, key), agree(curve, secret, key));
        }
    }

    /** "or the base point's u, 9 or 5": whatever PUBLIC has. */
    private static void baseIsNineOrFive(int curve) {
        byte[] secret = someSecret(curve);
        byte[] due = agree(curve, secret, key(curve, BigInteger.valueOf(curve == 0 ? 9 : 5)));
        for (byte[] key : new byte[][] {new byte[57], Check.filled(57, 255)}) {
            CurveSuite x = Check.suite(secret, key, null);
            Check.same("agree with the base point", true, x.agree(curve, true));
            Check.same("the base point's u", due, Check.out(x));
            Check.same("PUBLIC stays", key, Check.register(x, Check.PUBLIC, 57));
            x.agree(curve, false);
            x.agree(curve, true);
            Check.same("the base point's u behind another", due, Check.out(x));
        }
    }

    /** "false if all its bytes are 0": and these bytes are then in OUT, as many as ever. */
    private static void falseWithZeros(int curve) {
        Reference ref = REFERENCES[curve];
        for (byte[] secret : new byte[][] {new byte[57], Check.filled(57, 255), someSecret(curve)}) {
            for (BigInteger u : new BigInteger[] {BigInteger.ZERO, BigInteger.ONE, ref.p.subtract(BigInteger.ONE), ref.p,
                ref.p.add(BigInteger.ONE)}) {
                CurveSuite x = Check.suite(secret, key(curve, u), null);
                x.hash(true, 114);
                Check.same("agree with " + u, false, x.agree(curve, false));
                Check.same("size", bytes(curve), x.size());
                Check.same("zeros", new byte[bytes(curve)], Check.out(x));
                Check.same("the next agreement", true, x.agree(curve, true));
            }
            CurveSuite x = Check.suite(secret, key(curve, BigInteger.TWO), null);
            Check.same("agree with 2", true, x.agree(curve, false));
        }
    }

    /** "all its bytes": one other than 0 is enough, the first or the last. */
    private static void trueWithOneByteThatIsNotZero(int curve) {
        checkAnswer(curve, BigInteger.valueOf(curve == 0 ? 9 : 5));
        int shift = 8 * bytes(curve) - 8;
        int found = 0;
        for (int top = 1; top < (curve == 0 ? 128 : 256) && found < 3; top++) {
            BigInteger u = BigInteger.valueOf(top).shiftLeft(shift);
            if (isOfTheGroup(curve, u)) {
                checkAnswer(curve, u);
                found++;
            }
        }
        Check.same("some were found", 3, found);
    }

    /** Only points that order + 1 times are themselves can be the answer of an agreement, and be divided by a number. */
    private static boolean isOfTheGroup(int curve, BigInteger u) {
        Reference ref = REFERENCES[curve];
        return ref.ladder(ref.order.add(BigInteger.ONE), u).equals(u);
    }

    /** With a key that is a given answer divided by the secret, the answer comes. */
    private static void checkAnswer(int curve, BigInteger answer) {
        Reference ref = REFERENCES[curve];
        byte[] secret = someSecret(curve);
        BigInteger key = ref.ladder(ref.agreementNumber(secret).modInverse(ref.order), answer);
        CurveSuite x = Check.suite(secret, key(curve, key), null);
        Check.same("agree", true, x.agree(curve, false));
        Check.same("the answer", key(curve, answer), Check.out(x));
    }

    /** "IllegalArgumentException: no such curve": OUT stays what the latest call gave. */
    private static void refused(int curve) {
        CurveSuite x = Check.suite(someSecret(curve), key(curve, BigInteger.TEN), null);
        x.agree(curve, false);
        byte[] due = Check.out(x);
        for (int wrong : Check.outside(0, 1)) {
            Check.illegal("agree on curve " + wrong, () -> x.agree(wrong, false));
            Check.illegal("agree on curve " + wrong, () -> x.agree(wrong, true));
        }
        Check.same("OUT is left", due, Check.out(x));
        x.agree(curve, true);
        x.agree(curve, false);
        Check.same("the next agreement", due, Check.out(x));
    }
}
