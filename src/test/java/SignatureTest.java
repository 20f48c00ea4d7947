import java.math.BigInteger;
import java.security.GeneralSecurityException;
import java.util.Arrays;
import java.util.Random;

/** Promises 10 to 12: derive, sign, verify. */
public final class SignatureTest {
    private static final Reference[] REFERENCES = {new Reference(0), new Reference(1)};
    private static final byte[] NONE = new byte[0];

    public static void main(String[] args) throws GeneralSecurityException {
        vectors25519();
        vectors448();
        for (int curve = 0; curve < 2; curve++) {
            javaAgrees(curve);
            everyLength(curve);
            changesAreSeen(curve);
            formsAreApart(curve);
            largeSecondHalves(curve);
            strangeCodes(curve);
            smallOrderMakesNoDifference(curve);
            nearlyZero(curve);
            stateAndRefusals(curve);
        }
        Check.finish();
    }

    private static byte[] derive(int curve, byte[] secret) {
        CurveSuite x = Check.suite(secret, null, null);
        x.derive(curve);
        return Check.out(x);
    }

    private static byte[] sign(int curve, byte[] secret, byte[] message, byte[] context, boolean ph) {
        CurveSuite x = Check.suite(secret, null, null);
        Check.feed(x, false, message);
        Check.feed(x, true, context);
        x.sign(curve, ph);
        return Check.out(x);
    }

    private static boolean verify(int curve, byte[] signature, byte[] key, byte[] message, byte[] context, boolean ph) {
        CurveSuite x = Check.suite(null, key, signature);
        Check.feed(x, false, message);
        Check.feed(x, true, context);
        x.hash(false, 0);
        boolean answer = x.verify(curve, ph);
        Check.same("verify leaves OUT empty", 0, x.size());
        return answer;
    }

    private static void checkVector(int curve, boolean ph, String secret, String key, String message, String context,
            String due) {
        byte[] publicKey = derive(curve, Check.bytes(secret));
        if (!key.isEmpty()) {
            Check.same("derive", Check.bytes(key), publicKey);
        }
        byte[] signature = sign(curve, Check.bytes(secret), Check.bytes(message), Check.bytes(context), ph);
        Check.same("sign", Check.bytes(due), signature);
        Check.same("verify", true,
                verify(curve, signature, publicKey, Check.bytes(message), Check.bytes(context), ph));
    }

    /** RFC 8032, sections 7.1 to 7.3. */
    private static void vectors25519() {
        checkVector(0, false, "9d61b19deffd5a60ba844af492ec2cc44449c5697b326919703bac031cae7f60",
                "d75a980182b10ab7d54bfed3c964073a0ee172f3daa62325af021a68f707511a", "", "",
                "e5564300c360ac729086e2cc806e828a84877f1eb8e5d974d873e06522490155"
                + "5fb8821590a33bacc61e39701cf9b46bd25bf5f0595bbe24655141438e7a100b");
        checkVector(0, false, "4ccd089b28ff96da9db6c346ec114e0f5b8a319f35aba624da8cf6ed4fb8a6fb",
                "3d4017c3e843895a92b70aa74d1b7ebc9c982ccf2ec4968cc0cd55f12af4660c", "72", "",
                "92a009a9f0d4cab8720e820b5f642540a2b27b5416503f8fb3762223ebdb69da"
                + "085ac1e43e15996e458f3613d0f11d8c387b2eaeb4302aeeb00d291612bb0c00");
        checkVector(0, false, "c5aa8df43f9f837bedb7442f31dcb7b166d38535076f094b85ce3a2e0b4458f7",
                "fc51cd8e6218a1a38da47ed00230f0580816ed13ba3303ac5deb911548908025", "af82", "",
                "6291d657deec24024827e69c3abe01a30ce548a284743a445e3680d7db5ac3ac"
                + "18ff9b538d16f290ae67f760984dc6594a7c15e9716ed28dc027beceea1ec40a");
        checkVector(0, false, "0305334e381af78f141cb666f6199f57bc3495335a256a95bd2a55bf546663f6",
                "dfc9425e4f968f7f0c29f0259cf5f9aed6851c2bb4ad8bfb860cfee0ab248292",
                "f726936d19c800494e3fdaff20b276a8", "666f6f",
                "55a4cc2f70a54e04288c5f4cd1e45a7bb520b36292911876cada7323198dd87a"
                + "8b36950b95130022907a7fb7c4e9b2d5f6cca685a587b4b21f4b888e4e7edb0d");
        checkVector(0, true, "833fe62409237b9d62ec77587520911e9a759cec1d19755b7da901b96dca3d42",
                "", "616263", "",
                "98a70222f0b8121aa9d30f813d683f809e462b469c7ff87639499bb94e6dae41"
                + "31f85042463c2a355a2003d062adf5aaa10b8c61e636062aaad11c2a26083406");
    }

    /** RFC 8032, sections 7.4 and 7.5. */
    private static void vectors448() {
        checkVector(1, false, "6c82a562cb808d10d632be89c8513ebf6c929f34ddfa8c9f63c9960ef6e348a3"
                + "528c8a3fcc2f044e39a3fc5b94492f8f032e7549a20098f95b",
                "5fd7449b59b461fd2ce787ec616ad46a1da1342485a70e1f8a0ea75d80e96778"
                + "edf124769b46c7061bd6783df1e50f6cd1fa1abeafe8256180", "", "",
                "533a37f6bbe457251f023c0d88f976ae2dfb504a843e34d2074fd823d41a591f"
                + "2b233f034f628281f2fd7a22ddd47d7828c59bd0a21bfd3980ff0d2028d4b18a"
                + "9df63e006c5d1c2d345b925d8dc00b4104852db99ac5c7cdda8530a113a0f4db"
                + "b61149f05a7363268c71d95808ff2e652600");
        String secret = "c4eab05d357007c632f3dbb48489924d552b08fe0c353a0d4a1f00acda2c463a"
                + "fbea67c5e8d2877c5e3bc397a659949ef8021e954e0a12274e";
        String key = "43ba28f430cdff456ae531545f7ecd0ac834a55d9358c0372bfa0c6c6798c086"
                + "6aea01eb00742802b8438ea4cb82169c235160627b4c3a9480";
        checkVector(1, false, secret, key, "03", "",
                "26b8f91727bd62897af15e41eb43c377efb9c610d48f2335cb0bd0087810f435"
                + "2541b143c4b981b7e18f62de8ccdf633fc1bf037ab7cd779805e0dbcc0aae1cb"
                + "cee1afb2e027df36bc04dcecbf154336c19f0af7e0a6472905e799f1953d2a0f"
                + "f3348ab21aa4adafd1d234441cf807c03a00");
        checkVector(1, false, secret, key, "03", "666f6f",
                "d4f8f6131770dd46f40867d6fd5d5055de43541f8c5e35abbcd001b32a89f7d2"
                + "151f7647f11d8ca2ae279fb842d607217fce6e042f6815ea000c85741de5c8da"
                + "1144a6a1aba7f96de42505d7a7298524fda538fccbbb754f578c1cad10d54d0d"
                + "5428407e85dcbc98a49155c13764e66c3c00");
        checkVector(1, true, "833fe62409237b9d62ec77587520911e9a759cec1d19755b7da901b96dca3d42"
                + "ef7822e0d5104127dc05d6dbefde69e3ab2cec7c867c6e2c49",
                "", "616263", "",
                "822f6901f7480f3d5f562c592994d9693602875614483256505600bbc281ae38"
                + "1f54d6bce2ea911574932f52a4e6cadd78769375ec3ffd1b801a0d9b3f4030cd"
                + "433964b6457ea39476511214f97469b57dd32dbc560a9a94d00bff07620464a3"
                + "ad203df7dc7ce360c3cd3696d9d9fab90f00");
    }

    private static void javaAgrees(int curve) throws GeneralSecurityException {
        Random random = new Random(100 + curve);
        for (int i = 0; i < 60; i++) {
            byte[] secret = Check.random(random, 57);
            byte[] message = Check.random(random, random.nextInt(257));
            byte[] context = Check.random(random, i % 3 == 0 ? 0 : random.nextInt(65));
            boolean ph = i % 2 == 0;
            byte[] signature = sign(curve, secret, message, context, ph);
            Check.same("sign, as Java does", JavaSigner.sign(curve, secret, message, context, ph), signature);
            byte[] key = derive(curve, secret);
            Check.same("derive", REFERENCES[curve].derive(secret), key);
            Check.same("verify of sign", true, verify(curve, signature, key, message, context, ph));
        }
    }

    /** The text that is hashed crosses the hashes' blocks at some of these lengths. */
    private static void everyLength(int curve) throws GeneralSecurityException {
        byte[] secret = Check.random(new Random(110), 57);
        byte[] key = derive(curve, secret);
        for (int n = 0; n <= 256; n += n < 140 ? 3 : 29) {
            byte[] message = Check.random(new Random(n), n);
            byte[] context = Check.random(new Random(n), n % 65);
            byte[] signature = sign(curve, secret, message, context, false);
            Check.same("sign of " + n, JavaSigner.sign(curve, secret, message, context, false), signature);
            Check.same("verify of " + n, true, verify(curve, signature, key, message, context, false));
        }
        for (boolean ph : new boolean[] {false, true}) {
            byte[] message = Check.random(new Random(111), 256);
            byte[] context = Check.random(new Random(112), 64);
            byte[] signature = sign(curve, secret, message, context, ph);
            Check.same("sign of all that fits", JavaSigner.sign(curve, secret, message, context, ph), signature);
            Check.same("verify of all that fits", true, verify(curve, signature, key, message, context, ph));
        }
    }

    private static void changesAreSeen(int curve) {
        Random random = new Random(120 + curve);
        byte[] secret = Check.random(random, 57);
        byte[] message = Check.random(random, 20);
        byte[] context = Check.random(random, 5);
        byte[] key = derive(curve, secret);
        byte[] signature = sign(curve, secret, message, context, false);
        for (int i = 0; i < signature.length; i++) {
            byte[] other = signature.clone();
            other[i] ^= (byte) (1 << i % 8);
            Check.same("another signature", false, verify(curve, other, key, message, context, false));
        }
        for (int i = 0; i < key.length; i++) {
            byte[] other = key.clone();
            other[i] ^= (byte) (128 >> i % 8);
            Check.same("another key", false, verify(curve, signature, other, message, context, false));
        }
        byte[] other = message.clone();
        other[19] ^= 1;
        Check.same("another message", false, verify(curve, signature, key, other, context, false));
        Check.same("a longer message", false, verify(curve, signature, key, Arrays.copyOf(message, 21), context, false));
        Check.same("another context", false, verify(curve, signature, key, message, Arrays.copyOf(context, 6), false));
        Check.same("bytes behind the key are no matter", true,
                verify(curve, signature, curve == 1 ? key : Arrays.copyOf(Check.join(key, secret), 57), message, context, false));
        Check.same("bytes behind the signature are no matter", true,
                verify(curve, curve == 1 ? signature : Check.join(signature, key), key, message, context, false));
    }

    private static void formsAreApart(int curve) {
        byte[] secret = Check.random(new Random(130), 57);
        byte[] key = derive(curve, secret);
        byte[] message = Check.random(new Random(131), 9);
        byte[][] contexts = {NONE, {0}, {0, 0}};
        for (byte[] made : contexts) {
            for (byte[] asked : contexts) {
                for (int forms = 0; forms < 4; forms++) {
                    boolean ph = forms % 2 == 1;
                    boolean asPh = forms / 2 == 1;
                    byte[] signature = sign(curve, secret, message, made, ph);
                    Check.same("a form taken for another", made == asked && ph == asPh,
                            verify(curve, signature, key, message, asked, asPh));
                }
            }
        }
    }

    private static void largeSecondHalves(int curve) {
        Reference ref = REFERENCES[curve];
        byte[] secret = Check.random(new Random(140), 57);
        byte[] key = derive(curve, secret);
        byte[] signature = sign(curve, secret, NONE, NONE, false);
        byte[] first = Arrays.copyOf(signature, ref.bytes);
        BigInteger s = Reference.number(Arrays.copyOfRange(signature, ref.bytes, 2 * ref.bytes));
        for (int times = 1; times < 4; times++) {
            BigInteger more = s.add(ref.order.multiply(BigInteger.valueOf(times)));
            byte[] other = Check.join(first, Reference.lowestFirst(more, ref.bytes));
            Check.same("a second half beyond the order", false, verify(curve, other, key, NONE, NONE, false));
        }
        byte[] neutral = ref.encode(Reference.NEUTRAL);
        BigInteger end = BigInteger.TWO.pow(8 * ref.bytes);
        for (BigInteger number : new BigInteger[] {ref.order, ref.order.shiftLeft(1), end.subtract(end.mod(ref.order))}) {
            byte[] other = Check.join(neutral, Reference.lowestFirst(number.mod(end), ref.bytes));
            Check.same("a second half that is a multiple of the order", false,
                    verify(curve, other, neutral, NONE, NONE, false));
        }
        for (BigInteger number : new BigInteger[] {BigInteger.ZERO, BigInteger.ONE, ref.order.subtract(BigInteger.ONE)}) {
            byte[] code = ref.encode(ref.times(number, ref.base));
            byte[] other = Check.join(code, Reference.lowestFirst(number, ref.bytes));
            Check.same("a second half below the order", true, verify(curve, other, neutral, NONE, NONE, false));
        }
    }

    /** With 0 as second half and points of small order, all that can be wrong is the codes. */
    private static void strangeCodes(int curve) {
        Reference ref = REFERENCES[curve];
        byte[] zero = new byte[ref.bytes];
        byte[] neutral = ref.encode(Reference.NEUTRAL);
        Check.same("neutral codes", true, verify(curve, Check.join(neutral, zero), neutral, NONE, NONE, false));
        for (BigInteger y : new BigInteger[] {BigInteger.ONE, ref.p.subtract(BigInteger.ONE), ref.p, ref.p.add(BigInteger.ONE),
            BigInteger.ZERO, BigInteger.TWO, ref.p.add(ref.p)}) {
            for (int top : new int[] {0, 1, 2, 4, 8, 16, 32, 64, 127, 128, 129, 160, 192, 255}) {
                byte[] code = Reference.lowestFirst(y, ref.bytes);
                code[ref.bytes - 1] ^= (byte) top;
                Reference.P point = ref.decode(code);
                boolean small = point != null
                        && ref.times(BigInteger.valueOf(ref.cofactor), point).equals(Reference.NEUTRAL);
                Check.same("a strange first half " + Check.hex(code), small,
                        verify(curve, Check.join(code, zero), neutral, NONE, NONE, false));
                Check.same("a strange key " + Check.hex(code), small,
                        verify(curve, Check.join(neutral, zero), code, NONE, NONE, false));
            }
        }
    }

    private static void smallOrderMakesNoDifference(int curve) {
        Reference ref = REFERENCES[curve];
        Reference.P small = ref.smallGenerator();
        byte[] secret = Check.random(new Random(150 + curve), 57);
        BigInteger number = ref.secretNumber(secret);
        BigInteger r = new BigInteger(240, new Random(151));
        for (int i = 0; i < ref.cofactor; i++) {
            for (int j = 0; j < ref.cofactor; j++) {
                byte[] key = ref.encode(ref.add(ref.times(number, ref.base), ref.times(BigInteger.valueOf(i), small)));
                byte[] code = ref.encode(ref.add(ref.times(r, ref.base), ref.times(BigInteger.valueOf(j), small)));
                byte[] message = {(byte) i, (byte) j};
                BigInteger k = ref.challenge(code, key, message, NONE, false);
                BigInteger s = r.add(k.multiply(number)).mod(ref.order);
                byte[] signature = Check.join(code, Reference.lowestFirst(s, ref.bytes));
                Check.same("a signature with points of small order", true, verify(curve, signature, key, message, NONE, false));
                byte[] other = Check.join(code, Reference.lowestFirst(s.add(BigInteger.ONE).mod(ref.order), ref.bytes));
                Check.same("a wrong one with points of small order", false, verify(curve, other, key, message, NONE, false));
            }
        }
    }

    /** A secret of zeros, and all registers as at first. */
    private static void nearlyZero(int curve) throws GeneralSecurityException {
        byte[] zero = new byte[57];
        Check.same("derive of zeros", REFERENCES[curve].derive(zero), derive(curve, zero));
        Check.same("sign by zeros", JavaSigner.sign(curve, zero, NONE, NONE, false), sign(curve, zero, NONE, NONE, false));
        CurveSuite x = new CurveSuite();
        Check.same("zeros are codes of points of order 4, and 0 of them is neutral", true, x.verify(curve, false));
    }

    private static void stateAndRefusals(int curve) {
        byte[] secret = Check.random(new Random(160), 57);
        CurveSuite x = Check.suite(secret, null, null);
        x.sign(1 - curve, true);
        x.derive(curve);
        byte[] key = Check.out(x);
        Check.same("OUT has a key", REFERENCES[curve].bytes, key.length);
        for (int wrong : new int[] {-1, 2, Integer.MIN_VALUE, Integer.MAX_VALUE}) {
            Check.illegal("derive on curve " + wrong, () -> x.derive(wrong));
            Check.illegal("sign on curve " + wrong, () -> x.sign(wrong, false));
            Check.illegal("verify on curve " + wrong, () -> x.verify(wrong, false));
        }
        Check.same("refused calls leave OUT", key, Check.out(x));
        x.sign(curve, false);
        Check.same("OUT has a signature", 2 * REFERENCES[curve].bytes, x.size());
        Check.same("SECRET stays", secret, Check.register(x, Check.SECRET, 57));
        Check.same("PUBLIC stays", new byte[57], Check.register(x, Check.PUBLIC, 57));
        Check.same("SIGNATURE stays", new byte[10], Check.register(x, Check.SIGNATURE, 10));
    }
}
