import java.math.BigInteger;
import java.security.GeneralSecurityException;
import java.security.MessageDigest;
import java.util.Arrays;

/** The two curves once more, by BigInteger and as plain as can be; it uses nothing of CurveSuite. */
final class Reference {
    record P(BigInteger x, BigInteger y) {
    }

    static final BigInteger ONE = BigInteger.ONE;
    static final BigInteger TWO = BigInteger.TWO;
    static final P NEUTRAL = new P(BigInteger.ZERO, ONE);

    final int curve;
    final int bytes;
    final int agreementBytes;
    final int cofactor;
    final BigInteger p;
    final BigInteger order;
    final BigInteger a;
    final BigInteger d;
    final P base;
    private P small;

    Reference(int curve) {
        this.curve = curve;
        boolean is25519 = curve == 0;
        bytes = is25519 ? 32 : 57;
        agreementBytes = is25519 ? 32 : 56;
        cofactor = is25519 ? 8 : 4;
        p = is25519 ? TWO.pow(255).subtract(BigInteger.valueOf(19))
                : TWO.pow(448).subtract(TWO.pow(224)).subtract(ONE);
        order = is25519 ? TWO.pow(252).add(new BigInteger("27742317777372353535851937790883648493"))
                : TWO.pow(446).subtract(new BigInteger(
                        "13818066809895115352007386748515426880336692474882178609894547503885"));
        a = is25519 ? p.subtract(ONE) : ONE;
        d = is25519 ? BigInteger.valueOf(-121665).multiply(BigInteger.valueOf(121666).modInverse(p)).mod(p)
                : BigInteger.valueOf(-39081).mod(p);
        base = is25519 ? new P(
                new BigInteger("15112221349535400772501151409588531511454012693041857206046113283949847762202"),
                new BigInteger("46316835694926478169428394003475163141307993866256225615783033603165251855960"))
                : new P(
                new BigInteger("22458004029592430018760433409989603624678964163256413424612546168695"
                        + "0415467406032909029192869357953282578032075146446173674602635247710"),
                new BigInteger("29881921007848149267601793044393067343754404015408024209592824137233"
                        + "1506189835876003536878655418784733982303233503462500531545062832660"));
    }

    static BigInteger number(byte[] lowestFirst) {
        byte[] turned = new byte[lowestFirst.length + 1];
        for (int i = 0; i < lowestFirst.length; i++) {
            turned[lowestFirst.length - i] = lowestFirst[i];
        }
        return new BigInteger(turned);
    }

    static byte[] lowestFirst(BigInteger number, int n) {
        byte[] bytes = new byte[n];
        for (int i = 0; i < n; i++) {
            bytes[i] = number.shiftRight(8 * i).byteValue();
        }
        return bytes;
    }

    P add(P one, P other) {
        BigInteger product = d.multiply(one.x).multiply(other.x).multiply(one.y).multiply(other.y).mod(p);
        BigInteger x = one.x.multiply(other.y).add(one.y.multiply(other.x))
                .multiply(ONE.add(product).modInverse(p)).mod(p);
        BigInteger y = one.y.multiply(other.y).subtract(a.multiply(one.x).multiply(other.x))
                .multiply(ONE.subtract(product).modInverse(p)).mod(p);
        return new P(x, y);
    }

    P negate(P point) {
        return new P(point.x.negate().mod(p), point.y);
    }

    /** By doubling and adding, with one common denominator z, so that only the end takes a division. */
    P times(BigInteger n, P point) {
        BigInteger[] one = {point.x, point.y, ONE};
        BigInteger[] sum = {BigInteger.ZERO, ONE, ONE};
        for (int i = n.bitLength() - 1; i >= 0; i--) {
            sum = addFractions(sum, sum);
            if (n.testBit(i)) {
                sum = addFractions(sum, one);
            }
        }
        BigInteger inverse = sum[2].modInverse(p);
        return new P(sum[0].multiply(inverse).mod(p), sum[1].multiply(inverse).mod(p));
    }

    /** The formulas of add for x / z and y / z: both of its denominators are z^2 z'^2 with, or less, the product. */
    private BigInteger[] addFractions(BigInteger[] one, BigInteger[] other) {
        BigInteger zz = one[2].multiply(other[2]).mod(p);
        BigInteger square = zz.multiply(zz);
        BigInteger product = d.multiply(one[0].multiply(other[0]).mod(p)).multiply(one[1].multiply(other[1]).mod(p));
        BigInteger with = square.add(product).mod(p);
        BigInteger less = square.subtract(product).mod(p);
        BigInteger x = one[0].multiply(other[1]).add(one[1].multiply(other[0])).mod(p);
        BigInteger y = one[1].multiply(other[1]).subtract(a.multiply(one[0].multiply(other[0]).mod(p))).mod(p);
        return new BigInteger[] {
            x.multiply(zz).mod(p).multiply(less).mod(p), y.multiply(zz).mod(p).multiply(with).mod(p), with.multiply(less).mod(p),
        };
    }

    byte[] encode(P point) {
        byte[] code = lowestFirst(point.y, bytes);
        if (point.x.testBit(0)) {
            code[bytes - 1] |= (byte) 128;
        }
        return code;
    }

    /** A code's point, or null; bytes that write y otherwise than below p are no code. */
    P decode(byte[] code) {
        int sign = code[bytes - 1] >> 7 & 1;
        byte[] plain = Arrays.copyOf(code, bytes);
        plain[bytes - 1] &= 127;
        BigInteger y = number(plain);
        if (y.compareTo(p) >= 0) {
            return null;
        }
        BigInteger square = y.multiply(y);
        BigInteger x2 = square.subtract(ONE).multiply(d.multiply(square).subtract(a).modInverse(p)).mod(p);
        BigInteger x = root(x2);
        if (x == null || x.signum() == 0 && sign == 1) {
            return null;
        }
        return new P(x.testBit(0) == (sign == 1) ? x : p.subtract(x), y);
    }

    BigInteger root(BigInteger square) {
        BigInteger root;
        if (curve == 1) {
            root = square.modPow(p.add(ONE).shiftRight(2), p);
        } else {
            root = square.modPow(p.add(BigInteger.valueOf(3)).shiftRight(3), p);
            if (!root.multiply(root).mod(p).equals(square)) {
                root = root.multiply(TWO.modPow(p.subtract(ONE).shiftRight(2), p)).mod(p);
            }
        }
        return root.multiply(root).mod(p).equals(square) ? root : null;
    }

    /** A generator of the points of small order; sought once, as that takes long. */
    P smallGenerator() {
        if (small == null) {
            small = findSmallGenerator();
        }
        return small;
    }

    /** The order times a point, until one is of order c. */
    private P findSmallGenerator() {
        for (int y = 2; ; y++) {
            P point = decode(lowestFirst(BigInteger.valueOf(y), bytes));
            if (point != null) {
                P found = times(order, point);
                if (!times(BigInteger.valueOf(cofactor / 2), found).equals(NEUTRAL)) {
                    return found;
                }
            }
        }
    }

    /** RFC 7748's function, with the field's inverse of 0 being 0. */
    byte[] agree(byte[] secret, byte[] key) {
        byte[] u = Arrays.copyOf(key, agreementBytes);
        if (curve == 0) {
            u[31] &= 127;
        }
        return lowestFirst(ladder(agreementNumber(secret), number(u)), agreementBytes);
    }

    BigInteger agreementNumber(byte[] secret) {
        byte[] k = Arrays.copyOf(secret, agreementBytes);
        if (curve == 0) {
            k[0] &= (byte) 248;
            k[31] = (byte) (k[31] & 127 | 64);
        } else {
            k[0] &= (byte) 252;
            k[55] |= (byte) 128;
        }
        return number(k);
    }

    /** The u of n times a point with the given u, for any n that the ladder's bits hold. */
    BigInteger ladder(BigInteger n, BigInteger u) {
        BigInteger a24 = BigInteger.valueOf(curve == 0 ? 121665 : 39081);
        BigInteger x1 = u.mod(p);
        BigInteger x2 = ONE;
        BigInteger z2 = BigInteger.ZERO;
        BigInteger x3 = x1;
        BigInteger z3 = ONE;
        for (int t = (curve == 0 ? 255 : 448) - 1; t >= 0; t--) {
            boolean bit = n.testBit(t);
            BigInteger lowX = bit ? x3 : x2;
            BigInteger lowZ = bit ? z3 : z2;
            BigInteger highX = bit ? x2 : x3;
            BigInteger highZ = bit ? z2 : z3;
            BigInteger sum = lowX.add(lowZ).pow(2).mod(p);
            BigInteger less = lowX.subtract(lowZ).pow(2).mod(p);
            BigInteger e = sum.subtract(less);
            BigInteger da = highX.subtract(highZ).multiply(lowX.add(lowZ)).mod(p);
            BigInteger cb = highX.add(highZ).multiply(lowX.subtract(lowZ)).mod(p);
            BigInteger newHighX = da.add(cb).pow(2).mod(p);
            BigInteger newHighZ = x1.multiply(da.subtract(cb).pow(2)).mod(p);
            BigInteger newLowX = sum.multiply(less).mod(p);
            BigInteger newLowZ = e.multiply(sum.add(a24.multiply(e))).mod(p);
            x2 = bit ? newHighX : newLowX;
            z2 = bit ? newHighZ : newLowZ;
            x3 = bit ? newLowX : newHighX;
            z3 = bit ? newLowZ : newHighZ;
        }
        return x2.multiply(z2.modPow(p.subtract(TWO), p)).mod(p);
    }

    byte[] hash(byte[] text, int n) {
        return curve == 0 ? sha512(text) : Shake.shake256(text, n);
    }

    static byte[] sha512(byte[] text) {
        try {
            return MessageDigest.getInstance("SHA-512").digest(text);
        } catch (GeneralSecurityException e) {
            throw new IllegalStateException(e);
        }
    }

    byte[] expand(byte[] secret) {
        byte[] h = hash(Arrays.copyOf(secret, bytes), 2 * bytes);
        if (curve == 0) {
            h[0] &= (byte) 248;
            h[31] = (byte) (h[31] & 127 | 64);
        } else {
            h[0] &= (byte) 252;
            h[55] |= (byte) 128;
            h[56] = 0;
        }
        return h;
    }

    BigInteger secretNumber(byte[] secret) {
        return number(Arrays.copyOf(expand(secret), bytes));
    }

    byte[] derive(byte[] secret) {
        return encode(times(secretNumber(secret), base));
    }

    byte[] dom(byte[] context, boolean ph) {
        if (curve == 0 && !ph && context.length == 0) {
            return new byte[0];
        }
        String label = curve == 0 ? "SigEd25519 no Ed25519 collisions" : "SigEd448";
        byte[] head = Arrays.copyOf(label.getBytes(java.nio.charset.StandardCharsets.ISO_8859_1), label.length() + 2);
        head[label.length()] = (byte) (ph ? 1 : 0);
        head[label.length() + 1] = (byte) context.length;
        return Check.join(head, context);
    }

    BigInteger challenge(byte[] r, byte[] key, byte[] message, byte[] context, boolean ph) {
        byte[] body = ph ? hash(message, 64) : message;
        return number(hash(Check.join(dom(context, ph), r, key, body), 2 * bytes)).mod(order);
    }

    byte[] sign(byte[] secret, byte[] message, byte[] context, boolean ph) {
        byte[] h = expand(secret);
        byte[] body = ph ? hash(message, 64) : message;
        BigInteger r = number(hash(Check.join(dom(context, ph), Arrays.copyOfRange(h, bytes, 2 * bytes), body), 2 * bytes))
                .mod(order);
        byte[] commitment = encode(times(r, base));
        BigInteger k = challenge(commitment, derive(secret), message, context, ph);
        BigInteger s = r.add(k.multiply(secretNumber(secret))).mod(order);
        return Check.join(commitment, lowestFirst(s, bytes));
    }
}
