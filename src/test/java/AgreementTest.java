import java.math.BigInteger;
import java.util.Arrays;
import java.util.Random;

/** Promise 9: agree. */
public final class AgreementTest {
    private static final Reference[] REFERENCES = {new Reference(0), new Reference(1)};

    public static void main(String[] args) {
        vectors();
        handshakes();
        iterated(0, 1, "422c8e7a6227d7bca1350b3e2bb7279f7897b87bb6854b783c60e80311ae3079");
        iterated(0, 1000, "684cf59ba83309552800ef566f2f4d3c1c3887c49360e3875f2eb94d99532c51");
        iterated(1, 1, "3f482c8a9f19b01e6c46ee9711d9dc14fd4bf67af30765c2ae2b846a"
                + "4d23a8cd0db897086239492caf350b51f833868b9bc2b3bca9cf4113");
        iterated(1, 1000, "aa3b4749d55b9daf1e5b00288826c467274ce3ebbdd5c17b975e09d4"
                + "af6c67cf10d087202db88286e2b79fceea3ec353ef54faa26e219f38");
        for (int curve = 0; curve < 2; curve++) {
            strangeKeys(curve);
            patternsOfBits(curve);
            randomKeys(curve);
            bitsThatDoNotMatter(curve);
            stateAndRefusals(curve);
        }
        Check.finish();
    }

    private static byte[] agree(int curve, byte[] secret, byte[] key) {
        CurveSuite x = Check.suite(secret, key, null);
        boolean answer = x.agree(curve, false);
        byte[] out = Check.out(x);
        Check.same("agree tells whether all is 0", !Arrays.equals(out, new byte[out.length]), answer);
        return out;
    }

    private static byte[] agreeWithBase(int curve, byte[] secret) {
        CurveSuite x = Check.suite(secret, Check.bytes("ffffffffffffffff"), null);
        Check.same("agree with the base point", true, x.agree(curve, true));
        return Check.out(x);
    }

    private static void compare(int curve, byte[] secret, byte[] key) {
        Check.same("agree of " + Check.hex(secret) + " and " + Check.hex(key),
                REFERENCES[curve].agree(secret, key), agree(curve, secret, key));
    }

    /** RFC 7748, section 5.2. */
    private static void vectors() {
        checkVector(0, "a546e36bf0527c9d3b16154b82465edd62144c0ac1fc5a18506a2244ba449ac4",
                "e6db6867583030db3594c1a424b15f7c726624ec26b3353b10a903a6d0ab1c4c",
                "c3da55379de9c6908e94ea4df28d084f32eccf03491c71f754b4075577a28552");
        checkVector(0, "4b66e9d4d1b4673c5ad22691957d6af5c11b6421e0ea01d42ca4169e7918ba0d",
                "e5210f12786811d3f4b7959d0538ae2c31dbe7106fc03c3efc4cd549c715a493",
                "95cbde9476e8907d7aade45cb4b873f88b595a68799fa152e6f8f7647aac7957");
        checkVector(1, "3d262fddf9ec8e88495266fea19a34d28882acef045104d0d1aae121"
                + "700a779c984c24f8cdd78fbff44943eba368f54b29259a4f1c600ad3",
                "06fce640fa3487bfda5f6cf2d5263f8aad88334cbd07437f020f08f9"
                + "814dc031ddbdc38c19c6da2583fa5429db94ada18aa7a7fb4ef8a086",
                "ce3e4ff95a60dc6697da1db1d85e6afbdf79b50a2412d7546d5f239f"
                + "e14fbaadeb445fc66a01b0779d98223961111e21766282f73dd96b6f");
        checkVector(1, "203d494428b8399352665ddca42f9de8fef600908e0d461cb021f8c5"
                + "38345dd77c3e4806e25f46d3315c44e0a5b4371282dd2c8d5be3095f",
                "0fbcc2f993cd56d3305b0b7d9e55d4c1a8fb5dbb52f8e9a1e9b6201b"
                + "165d015894e56c4d3570bee52fe205e28a78b91cdfbde71ce8d157db",
                "884a02576239ff7a2f2f63b2db6a9ff37047ac13568e1e30fe63c4a7"
                + "ad1b3ee3a5700df34321d62077e63633c575c1c954514e99da7c179d");
    }

    private static void checkVector(int curve, String secret, String key, String due) {
        Check.same("agree", Check.bytes(due), agree(curve, Check.bytes(secret), Check.bytes(key)));
    }

    /** RFC 7748, section 6. */
    private static void handshakes() {
        checkHandshake(0, "77076d0a7318a57d3c16c17251b26645df4c2f87ebc0992ab177fba51db92c2a",
                "8520f0098930a754748b7ddcb43ef75a0dbf3a0d26381af4eba4a98eaa9b4e6a",
                "5dab087e624a8a4b79e17f8b83800ee66f3bb1292618b6fd1c2f8b27ff88e0eb",
                "de9edb7d7b7dc1b4d35b61c2ece435373f8343c85b78674dadfc7e146f882b4f",
                "4a5d9d5ba4ce2de1728e3bf480350f25e07e21c947d19e3376f09b3c1e161742");
        checkHandshake(1, "9a8f4925d1519f5775cf46b04b5800d4ee9ee8bae8bc5565d498c28d"
                + "d9c9baf574a9419744897391006382a6f127ab1d9ac2d8c0a598726b",
                "9b08f7cc31b7e3e67d22d5aea121074a273bd2b83de09c63faa73d2c"
                + "22c5d9bbc836647241d953d40c5b12da88120d53177f80e532c41fa0",
                "1c306a7ac2a0e2e0990b294470cba339e6453772b075811d8fad0d1d"
                + "6927c120bb5ee8972b0d3e21374c9c921b09d1b0366f10b65173992d",
                "3eb7a829b0cd20f5bcfc0b599b6feccf6da4627107bdb0d4f345b430"
                + "27d8b972fc3e34fb4232a13ca706dcb57aec3dae07bdc1c67bf33609",
                "07fff4181ac6cc95ec1c16a94a0f74d12da232ce40a77552281d282b"
                + "b60c0b56fd2464c335543936521c24403085d59a449a5037514a879d");
    }

    private static void checkHandshake(int curve, String a, String aKey, String b, String bKey, String due) {
        Check.same("a key", Check.bytes(aKey), agreeWithBase(curve, Check.bytes(a)));
        Check.same("a key", Check.bytes(bKey), agreeWithBase(curve, Check.bytes(b)));
        checkVector(curve, a, bKey, due);
        checkVector(curve, b, aKey, due);
    }

    /** RFC 7748, section 5.2: k and u are k's answer and the former k, again and again. */
    private static void iterated(int curve, int rounds, String due) {
        byte[] k = new byte[REFERENCES[curve].agreementBytes];
        k[0] = (byte) (curve == 0 ? 9 : 5);
        byte[] u = k;
        for (int i = 0; i < rounds; i++) {
            byte[] next = agree(curve, k, u);
            u = k;
            k = next;
        }
        Check.same("agree iterated " + rounds + " times", Check.bytes(due), k);
    }

    /** u at 0, at the prime, beyond it, at the end of what the bytes hold; those of small order among them. */
    private static void strangeKeys(int curve) {
        Reference ref = REFERENCES[curve];
        Random random = new Random(90 + curve);
        BigInteger end = BigInteger.TWO.pow(8 * ref.agreementBytes);
        BigInteger half = end.shiftRight(1);
        for (BigInteger about : new BigInteger[] {BigInteger.ZERO, ref.p, ref.p.shiftLeft(1), half, end,
            BigInteger.TWO.pow(224), ref.p.add(half)}) {
            for (int by = -20; by <= 20; by++) {
                BigInteger u = about.add(BigInteger.valueOf(by));
                if (u.signum() >= 0 && u.compareTo(end) < 0) {
                    byte[] key = Reference.lowestFirst(u, ref.agreementBytes);
                    compare(curve, Check.random(random, ref.agreementBytes), key);
                }
            }
        }
        if (curve == 0) {
            smallOrder(curve, "e0eb7a7c3b41b8ae1656e3faf19fc46ada098deb9c32b1fd866205165f49b800");
            smallOrder(curve, "5f9c95bca3508c24b1d0b1559c83ef5b04445cc4581c8e86d8224eddd09f1157");
            smallOrder(curve, "ecffffffffffffffffffffffffffffffffffffffffffffffffffffffffffff7f");
            smallOrder(curve, "edffffffffffffffffffffffffffffffffffffffffffffffffffffffffffff7f");
            smallOrder(curve, "eeffffffffffffffffffffffffffffffffffffffffffffffffffffffffffff7f");
            smallOrder(curve, "eeffffffffffffffffffffffffffffffffffffffffffffffffffffffffffffff");
        }
        smallOrder(curve, Check.hex(Reference.lowestFirst(BigInteger.ZERO, ref.agreementBytes)));
        smallOrder(curve, Check.hex(Reference.lowestFirst(BigInteger.ONE, ref.agreementBytes)));
        for (int by = -1; by <= 1; by++) {
            BigInteger u = ref.p.add(BigInteger.valueOf(by));
            smallOrder(curve, Check.hex(Reference.lowestFirst(u, ref.agreementBytes)));
        }
    }

    private static void smallOrder(int curve, String key) {
        CurveSuite x = Check.suite(Check.random(new Random(7), 57), Check.bytes(key), null);
        Check.same("agree with a point of small order", false, x.agree(curve, false));
        Check.same("gives zeros", new byte[REFERENCES[curve].agreementBytes], Check.out(x));
    }

    private static void patternsOfBits(int curve) {
        int n = REFERENCES[curve].agreementBytes;
        int[] patterns = {0x00, 0xff, 0x01, 0x80, 0x55, 0xaa, 0x7f, 0xfe};
        for (int one : patterns) {
            for (int other : patterns) {
                byte[] secret = new byte[n];
                byte[] key = new byte[n];
                Arrays.fill(secret, (byte) one);
                Arrays.fill(key, (byte) other);
                compare(curve, secret, key);
            }
        }
    }

    private static void randomKeys(int curve) {
        int n = REFERENCES[curve].agreementBytes;
        byte[] base = new byte[n];
        base[0] = (byte) (curve == 0 ? 9 : 5);
        Random random = new Random(91 + curve);
        for (int i = 0; i < 100; i++) {
            byte[] secret = Check.random(random, n);
            compare(curve, secret, Check.random(random, n));
            Check.same("agree with the base point", REFERENCES[curve].agree(secret, base), agreeWithBase(curve, secret));
        }
    }

    private static void bitsThatDoNotMatter(int curve) {
        Random random = new Random(92 + curve);
        byte[] secret = Check.random(random, 57);
        byte[] key = Check.random(random, 57);
        byte[] due = agree(curve, secret, key);
        int top = REFERENCES[curve].agreementBytes - 1;
        for (int bit = 0; bit < 8; bit++) {
            byte[] low = secret.clone();
            low[0] ^= (byte) (1 << bit);
            byte[] high = secret.clone();
            high[top] ^= (byte) (1 << bit);
            byte[] other = key.clone();
            other[top] ^= (byte) (1 << bit);
            Check.same("secret's lowest bits", bit < (curve == 0 ? 3 : 2), Arrays.equals(due, agree(curve, low, key)));
            Check.same("secret's highest bits", bit > (curve == 0 ? 5 : 6), Arrays.equals(due, agree(curve, high, key)));
            Check.same("the key's highest bit", curve == 0 && bit == 7, Arrays.equals(due, agree(curve, secret, other)));
        }
        byte[] behind = key.clone();
        behind[top + 1] ^= 1;
        Check.same("bytes behind the key", due, agree(curve, secret, behind));
        behind = secret.clone();
        behind[top + 1] ^= 1;
        Check.same("bytes behind the secret", due, agree(curve, behind, key));
    }

    private static void stateAndRefusals(int curve) {
        byte[] secret = Check.random(new Random(93), 57);
        byte[] key = Check.random(new Random(94), 57);
        CurveSuite x = Check.suite(secret, key, null);
        x.agree(1 - curve, false);
        x.agree(curve, false);
        Check.same("OUT is as long as the latest agreement", REFERENCES[curve].agreementBytes, x.size());
        Check.same("SECRET stays", secret, Check.register(x, Check.SECRET, 57));
        Check.same("PUBLIC stays", key, Check.register(x, Check.PUBLIC, 57));
        byte[] out = Check.out(x);
        for (int wrong : new int[] {-1, 2, Integer.MIN_VALUE, Integer.MAX_VALUE}) {
            Check.illegal("agree on curve " + wrong, () -> x.agree(wrong, false));
            Check.illegal("agree on curve " + wrong, () -> x.agree(wrong, true));
        }
        Check.same("a refused agreement leaves OUT", out, Check.out(x));
    }
}
