import java.util.Arrays;

/**
 * Agreement (X25519, X448), signatures (Ed25519 with its ctx and ph forms, Ed448 and its ph form),
 * the hashes that they need, and reckoning with the points of both curves.
 *
 * <p>Every row that a call needs is made in the constructors: a call itself makes no object but the
 * exception that it may throw.
 */
public final class CurveSuite {
    private static final int SECRET = 0;
    private static final int PUBLIC = 1;
    private static final int SIGNATURE = 2;
    private static final int OUT = 3;

    private static final int CURVES = 2;
    private static final int PLACES = 3;
    private static final int KEY_ROOM = 57;
    private static final int SIGNATURE_ROOM = 114;
    private static final int MESSAGE_ROOM = 256;
    private static final int CONTEXT_ROOM = 64;

    private final Row[] registers = new Row[OUT + 1];
    private final Row message = new Row(MESSAGE_ROOM);
    private final Row context = new Row(CONTEXT_ROOM);
    private final Digest sha;
    private final Digest shake;
    private final Curve[] curves = new Curve[CURVES];
    private final Agreement[] agreements = new Agreement[CURVES];
    private final Signer[] signers = new Signer[CURVES];
    private final Point[] places = new Point[PLACES];
    private final int[] curveOf = new int[PLACES];
    private final Point lessened = new Point();

    public CurveSuite() {
        registers[SECRET] = new Row(KEY_ROOM);
        registers[PUBLIC] = new Row(KEY_ROOM);
        registers[SIGNATURE] = new Row(SIGNATURE_ROOM);
        registers[OUT] = new Row(SIGNATURE_ROOM);
        for (int r = SECRET; r <= SIGNATURE; r++) {
            registers[r].count = registers[r].bytes.length;
        }
        Digest sha512 = new Sha512();
        Digest shake256 = new Shake256();
        sha = sha512;
        shake = shake256;
        for (int c = 0; c < CURVES; c++) {
            boolean is448 = c == 1;
            Field field = new Field(is448);
            Curve curve = new Curve(is448, field);
            curves[c] = curve;
            agreements[c] = new Agreement(is448, field);
            signers[c] = new Signer(is448, curve, is448 ? shake256 : sha512);
        }
        for (int p = 0; p < PLACES; p++) {
            places[p] = new Point();
        }
    }

    public void put(int register, int place, long bytes, int n)
            throws IllegalArgumentException, IndexOutOfBoundsException {
        requireByteCount(n);
        requireFixedRegister(register);
        Row row = registers[register];
        if (place < 0 || place > row.count - n) {
            throw new IndexOutOfBoundsException("not all bytes have a place");
        }
        spread(row.bytes, place, bytes, n);
    }

    public int feed(boolean context, long bytes, int n)
            throws IllegalArgumentException, IllegalStateException {
        requireByteCount(n);
        Row row = context ? this.context : message;
        if (row.count > row.bytes.length - n) {
            throw new IllegalStateException("too many bytes");
        }
        spread(row.bytes, row.count, bytes, n);
        row.count += n;
        return row.count;
    }

    public void clear(boolean context) {
        Row row = context ? this.context : message;
        row.count = 0;
    }

    public int move(int register) throws IllegalArgumentException {
        requireFixedRegister(register);
        Row from = registers[OUT];
        Row to = registers[register];
        int n = Math.min(from.count, to.count);
        System.arraycopy(from.bytes, 0, to.bytes, 0, n);
        return n;
    }

    public int look(int register, int k) throws IllegalArgumentException, IndexOutOfBoundsException {
        if (register < SECRET || register > OUT) {
            throw new IllegalArgumentException("no such register");
        }
        Row row = registers[register];
        if (k < 0 || k >= row.count) {
            throw new IndexOutOfBoundsException("no such byte");
        }
        return row.bytes[k];
    }

    public int size() {
        return registers[OUT].count;
    }

    public void hash(boolean shake, int n) throws IllegalArgumentException {
        if (shake && (n < 0 || n > SIGNATURE_ROOM)) {
            throw new IllegalArgumentException("no such number of bytes");
        }
        Row out = registers[OUT];
        out.count = shake ? n : Sha512.DIGEST_BYTES;
        Digest digest = shake ? this.shake : sha;
        digest.digest(out.bytes, message, out.count);
    }

    public boolean agree(int curve, boolean base) throws IllegalArgumentException {
        requireCurve(curve);
        Agreement agreement = agreements[curve];
        if (base) {
            agreement.startFromBase();
        } else {
            agreement.startFrom(registers[PUBLIC].bytes);
        }
        Row out = registers[OUT];
        out.count = agreement.keyBytes;
        return agreement.climb(out.bytes, registers[SECRET].bytes);
    }

    public void derive(int curve) throws IllegalArgumentException {
        requireCurve(curve);
        Row out = registers[OUT];
        signers[curve].publicKey(out.bytes, registers[SECRET].bytes);
        out.count = curves[curve].codeBytes;
    }

    public void sign(int curve, boolean ph) throws IllegalArgumentException {
        requireCurve(curve);
        Row out = registers[OUT];
        signers[curve].choose(message, context, ph);
        signers[curve].makeSignature(out.bytes, registers[SECRET].bytes);
        out.count = 2 * curves[curve].codeBytes;
    }

    public boolean verify(int curve, boolean ph) throws IllegalArgumentException {
        requireCurve(curve);
        registers[OUT].count = 0;
        signers[curve].choose(message, context, ph);
        return signers[curve].isVerified(registers[SIGNATURE].bytes, registers[PUBLIC].bytes);
    }

    public boolean point(int curve, int place) throws IllegalArgumentException {
        requireCurve(curve);
        requirePlace(place);
        if (!curves[curve].decode(places[place], registers[PUBLIC].bytes)) {
            return false;
        }
        curveOf[place] = curve;
        return true;
    }

    public void add(int to, int a, int b, boolean less)
            throws IllegalArgumentException, IllegalStateException {
        requirePlace(to);
        requirePlace(a);
        requirePlace(b);
        if (curveOf[a] != curveOf[b]) {
            throw new IllegalStateException("the points are not of one curve");
        }
        Curve curve = curves[curveOf[a]];
        Point second = places[b];
        if (less) {
            curve.negate(lessened, second);
            second = lessened;
        }
        curve.sum(places[to], places[a], second);
        curveOf[to] = curveOf[a];
    }

    public void times(int to, int a) throws IllegalArgumentException {
        requirePlace(to);
        requirePlace(a);
        curves[curveOf[a]].multiply(places[to], registers[SECRET].bytes, places[a]);
        curveOf[to] = curveOf[a];
    }

    public void code(int place) throws IllegalArgumentException {
        requirePlace(place);
        Curve curve = curves[curveOf[place]];
        Row out = registers[OUT];
        curve.encode(out.bytes, places[place]);
        out.count = curve.codeBytes;
    }

    public boolean same(int a, int b) throws IllegalArgumentException {
        requirePlace(a);
        requirePlace(b);
        return curveOf[a] == curveOf[b] && curves[curveOf[a]].areEqual(places[a], places[b]);
    }

    public int order(int place, int what) throws IllegalArgumentException {
        requirePlace(place);
        if (what < 0 || what > 2) {
            throw new IllegalArgumentException("no such what");
        }
        Curve curve = curves[curveOf[place]];
        if (what == 0) {
            return curve.isNeutral(places[place]) ? 1 : 0;
        }
        return what == 1 ? curve.smallOrder(places[place]) : curveOf[place];
    }

    private static void requireByteCount(int n) {
        if (n < 1 || n > 8) {
            throw new IllegalArgumentException("n is not 1 to 8");
        }
    }

    private static void requireFixedRegister(int register) {
        if (register < SECRET || register > SIGNATURE) {
            throw new IllegalArgumentException("no such register");
        }
    }

    private static void requireCurve(int curve) {
        if (curve < 0 || curve >= CURVES) {
            throw new IllegalArgumentException("no such curve");
        }
    }

    private static void requirePlace(int place) {
        if (place < 0 || place >= PLACES) {
            throw new IllegalArgumentException("no such place");
        }
    }

    private static void spread(int[] to, int from, long bytes, int n) {
        for (int i = 0; i < n; i++) {
            to[from + i] = (int) (bytes >>> 8 * (n - 1 - i)) & 255;
        }
    }

    /** Bytes (0 to 255) with a fixed room, of which the first ones count. */
    private static final class Row {
        final int[] bytes;
        int count;

        Row(int room) {
            bytes = new int[room];
        }

        void append(int value) {
            if (count < bytes.length) {
                bytes[count] = value;
                count++;
            }
        }

        void appendPart(int[] from, int start, int n) {
            for (int i = start; i < start + n; i++) {
                append(from[i]);
            }
        }

        void appendText(String text) {
            for (int i = 0; i < text.length(); i++) {
                append(text.charAt(i));
            }
        }
    }

    /** Big numbers as rows of limbs of a given number of bits, the lowest limb first. */
    private static final class Limbs {
        /** Enough for 448 bits in limbs of 28: all rows have it, so that a point fits any place. */
        static final int ROOM = 16;

        static long[] fromHex(String text, int bits) {
            int n = text.length() / 2;
            int[] bytes = new int[n];
            for (int i = 0; i < n; i++) {
                int at = 2 * (n - 1 - i);
                bytes[i] = 16 * digit(text.charAt(at)) + digit(text.charAt(at + 1));
            }
            long[] limbs = new long[ROOM];
            fromBytes(limbs, bits, bytes, n);
            return limbs;
        }

        private static int digit(char letter) {
            return letter <= '9' ? letter - '0' : letter - 'a' + 10;
        }

        static void fromBytes(long[] to, int bits, int[] bytes, int n) {
            long mask = (1L << bits) - 1;
            Arrays.fill(to, 0L);
            int limb = 0;
            int shift = 0;
            for (int i = 0; i < n; i++) {
                long part = (long) bytes[i] << shift;
                if (limb < ROOM) {
                    to[limb] |= part & mask;
                }
                shift += 8;
                if (shift >= bits) {
                    shift -= bits;
                    limb++;
                    if (limb < ROOM) {
                        to[limb] = part >> bits;
                    }
                }
            }
        }

        static void toBytes(int[] to, int from, int n, long[] limbs, int bits) {
            int limb = 0;
            int shift = 0;
            for (int i = 0; i < n; i++) {
                long part = limb < ROOM ? limbs[limb] >> shift : 0L;
                shift += 8;
                if (shift >= bits) {
                    shift -= bits;
                    limb++;
                    if (limb < ROOM) {
                        part |= limbs[limb] << 8 - shift;
                    }
                }
                to[from + i] = (int) part & 255;
            }
        }
    }

    /** A hash of a row of bytes; Shake256 gives as many bytes as are asked for, up to its block. */
    private interface Digest {
        void digest(int[] to, Row text, int n);
    }

    private static final class Sha512 implements Digest {
        static final int DIGEST_BYTES = 64;
        private static final int BLOCK = 128;
        private static final int LENGTH_BYTES = 16;
        private static final int ROUNDS = 80;

        private static final long[] START = {
            0x6a09e667f3bcc908L, 0xbb67ae8584caa73bL, 0x3c6ef372fe94f82bL, 0xa54ff53a5f1d36f1L,
            0x510e527fade682d1L, 0x9b05688c2b3e6c1fL, 0x1f83d9abfb41bd6bL, 0x5be0cd19137e2179L,
        };

        private static final long[] ROUND_KEYS = {
            0x428a2f98d728ae22L, 0x7137449123ef65cdL, 0xb5c0fbcfec4d3b2fL, 0xe9b5dba58189dbbcL,
            0x3956c25bf348b538L, 0x59f111f1b605d019L, 0x923f82a4af194f9bL, 0xab1c5ed5da6d8118L,
            0xd807aa98a3030242L, 0x12835b0145706fbeL, 0x243185be4ee4b28cL, 0x550c7dc3d5ffb4e2L,
            0x72be5d74f27b896fL, 0x80deb1fe3b1696b1L, 0x9bdc06a725c71235L, 0xc19bf174cf692694L,
            0xe49b69c19ef14ad2L, 0xefbe4786384f25e3L, 0x0fc19dc68b8cd5b5L, 0x240ca1cc77ac9c65L,
            0x2de92c6f592b0275L, 0x4a7484aa6ea6e483L, 0x5cb0a9dcbd41fbd4L, 0x76f988da831153b5L,
            0x983e5152ee66dfabL, 0xa831c66d2db43210L, 0xb00327c898fb213fL, 0xbf597fc7beef0ee4L,
            0xc6e00bf33da88fc2L, 0xd5a79147930aa725L, 0x06ca6351e003826fL, 0x142929670a0e6e70L,
            0x27b70a8546d22ffcL, 0x2e1b21385c26c926L, 0x4d2c6dfc5ac42aedL, 0x53380d139d95b3dfL,
            0x650a73548baf63deL, 0x766a0abb3c77b2a8L, 0x81c2c92e47edaee6L, 0x92722c851482353bL,
            0xa2bfe8a14cf10364L, 0xa81a664bbc423001L, 0xc24b8b70d0f89791L, 0xc76c51a30654be30L,
            0xd192e819d6ef5218L, 0xd69906245565a910L, 0xf40e35855771202aL, 0x106aa07032bbd1b8L,
            0x19a4c116b8d2d0c8L, 0x1e376c085141ab53L, 0x2748774cdf8eeb99L, 0x34b0bcb5e19b48a8L,
            0x391c0cb3c5c95a63L, 0x4ed8aa4ae3418acbL, 0x5b9cca4f7763e373L, 0x682e6ff3d6b2b8a3L,
            0x748f82ee5defb2fcL, 0x78a5636f43172f60L, 0x84c87814a1f0ab72L, 0x8cc702081a6439ecL,
            0x90befffa23631e28L, 0xa4506cebde82bde9L, 0xbef9a3f7b2c67915L, 0xc67178f2e372532bL,
            0xca273eceea26619cL, 0xd186b8c721c0c207L, 0xeada7dd6cde0eb1eL, 0xf57d4f7fee6ed178L,
            0x06f067aa72176fbaL, 0x0a637dc5a2c898a6L, 0x113f9804bef90daeL, 0x1b710b35131c471bL,
            0x28db77f523047d84L, 0x32caab7b40c72493L, 0x3c9ebe0a15c9bebcL, 0x431d67c49c100d4cL,
            0x4cc5d4becb3e42b6L, 0x597f299cfc657e2aL, 0x5fcb6fab3ad6faecL, 0x6c44198c4a475817L,
        };

        private final long[] state = new long[8];
        private final long[] words = new long[ROUNDS];

        @Override
        public void digest(int[] to, Row text, int n) {
            System.arraycopy(START, 0, state, 0, state.length);
            int blocks = (text.count + LENGTH_BYTES) / BLOCK + 1;
            for (int block = 0; block < blocks; block++) {
                loadBlock(text, block * BLOCK, blocks * BLOCK);
                compress();
            }
            for (int i = 0; i < n && i < DIGEST_BYTES; i++) {
                to[i] = (int) (state[i >> 3] >>> 56 - 8 * (i & 7)) & 255;
            }
        }

        private void loadBlock(Row text, int from, int padded) {
            for (int w = 0; w < 16; w++) {
                long word = 0;
                for (int i = 0; i < 8; i++) {
                    word = word << 8 | paddedByte(text, from + 8 * w + i, padded);
                }
                words[w] = word;
            }
            for (int w = 16; w < ROUNDS; w++) {
                words[w] = words[w - 16] + smallSigma0(words[w - 15]) + words[w - 7] + smallSigma1(words[w - 2]);
            }
        }

        /** Texts are short, so the length in bits fits the last two bytes of its field. */
        private static int paddedByte(Row text, int at, int padded) {
            if (at < text.count) {
                return text.bytes[at];
            }
            if (at == text.count) {
                return 128;
            }
            int left = padded - at;
            return left == 1 ? 8 * text.count & 255 : left == 2 ? 8 * text.count >> 8 & 255 : 0;
        }

        private void compress() {
            long a = state[0];
            long b = state[1];
            long c = state[2];
            long d = state[3];
            long e = state[4];
            long f = state[5];
            long g = state[6];
            long h = state[7];
            for (int i = 0; i < ROUNDS; i++) {
                long first = h + bigSigma1(e) + (e & f ^ ~e & g) + ROUND_KEYS[i] + words[i];
                long second = bigSigma0(a) + (a & b ^ a & c ^ b & c);
                h = g;
                g = f;
                f = e;
                e = d + first;
                d = c;
                c = b;
                b = a;
                a = first + second;
            }
            state[0] += a;
            state[1] += b;
            state[2] += c;
            state[3] += d;
            state[4] += e;
            state[5] += f;
            state[6] += g;
            state[7] += h;
        }

        private static long bigSigma0(long x) {
            return turn(x, 28) ^ turn(x, 34) ^ turn(x, 39);
        }

        private static long bigSigma1(long x) {
            return turn(x, 14) ^ turn(x, 18) ^ turn(x, 41);
        }

        private static long smallSigma0(long x) {
            return turn(x, 1) ^ turn(x, 8) ^ x >>> 7;
        }

        private static long smallSigma1(long x) {
            return turn(x, 19) ^ turn(x, 61) ^ x >>> 6;
        }

        private static long turn(long x, int right) {
            return x >>> right | x << 64 - right;
        }
    }

    private static final class Shake256 implements Digest {
        private static final int RATE = 136;
        private static final int SUFFIX = 0x1f;

        private static final long[] ROUND_KEYS = {
            0x0000000000000001L, 0x0000000000008082L, 0x800000000000808aL, 0x8000000080008000L,
            0x000000000000808bL, 0x0000000080000001L, 0x8000000080008081L, 0x8000000000008009L,
            0x000000000000008aL, 0x0000000000000088L, 0x0000000080008009L, 0x000000008000000aL,
            0x000000008000808bL, 0x800000000000008bL, 0x8000000000008089L, 0x8000000000008003L,
            0x8000000000008002L, 0x8000000000000080L, 0x000000000000800aL, 0x800000008000000aL,
            0x8000000080008081L, 0x8000000000008080L, 0x0000000080000001L, 0x8000000080008008L,
        };

        /** The lane that each lane's content goes to, along the one cycle from lane 1 on. */
        private static final int[] NEXT_LANE = {
            10, 7, 11, 17, 18, 3, 5, 16, 8, 21, 24, 4, 15, 23, 19, 13, 12, 2, 20, 14, 22, 9, 6, 1,
        };

        private static final int[] TURNS = {
            1, 3, 6, 10, 15, 21, 28, 36, 45, 55, 2, 14, 27, 41, 56, 8, 25, 43, 62, 18, 39, 61, 20, 44,
        };

        private final long[] lanes = new long[25];
        private final long[] columns = new long[5];

        @Override
        public void digest(int[] to, Row text, int n) {
            Arrays.fill(lanes, 0L);
            int at = 0;
            for (int i = 0; i < text.count; i++) {
                mix(at, text.bytes[i]);
                at++;
                if (at == RATE) {
                    permute();
                    at = 0;
                }
            }
            mix(at, SUFFIX);
            mix(RATE - 1, 128);
            permute();
            for (int i = 0; i < n && i < RATE; i++) {
                to[i] = (int) (lanes[i >> 3] >>> 8 * (i & 7)) & 255;
            }
        }

        private void mix(int at, int value) {
            lanes[at >> 3] ^= (long) value << 8 * (at & 7);
        }

        private void permute() {
            for (int round = 0; round < ROUND_KEYS.length; round++) {
                mixColumns();
                moveLanes();
                mixRows();
                lanes[0] ^= ROUND_KEYS[round];
            }
        }

        private void mixColumns() {
            for (int x = 0; x < 5; x++) {
                columns[x] = lanes[x] ^ lanes[x + 5] ^ lanes[x + 10] ^ lanes[x + 15] ^ lanes[x + 20];
            }
            for (int x = 0; x < 5; x++) {
                long change = columns[(x + 4) % 5] ^ turn(columns[(x + 1) % 5], 1);
                for (int y = 0; y < 25; y += 5) {
                    lanes[y + x] ^= change;
                }
            }
        }

        private void moveLanes() {
            long carried = lanes[1];
            for (int i = 0; i < NEXT_LANE.length; i++) {
                int lane = NEXT_LANE[i];
                long kept = lanes[lane];
                lanes[lane] = turn(carried, TURNS[i]);
                carried = kept;
            }
        }

        private void mixRows() {
            for (int y = 0; y < 25; y += 5) {
                System.arraycopy(lanes, y, columns, 0, 5);
                for (int x = 0; x < 5; x++) {
                    lanes[y + x] = columns[x] ^ ~columns[(x + 1) % 5] & columns[(x + 2) % 5];
                }
            }
        }

        private static long turn(long x, int left) {
            return x << left | x >>> 64 - left;
        }
    }

    /**
     * Numbers modulo 2^255 - 19 (9 limbs of 29 bits) or 2^448 - 2^224 - 1 (16 limbs of 28 bits).
     *
     * <p>Between calls a limb may lie a little outside its bits, by less than 64: then a column of a
     * product stays below 2^62, and a sum or difference needs only one pass of carries.
     */
    private static final class Field {
        private static final int MIDDLE = 8;

        final int bytes;
        final long[] one = new long[Limbs.ROOM];
        private final boolean is448;
        private final int limbs;
        private final int bits;
        private final int topBits;
        private final long mask;
        private final long topMask;
        private final long[] prime = new long[Limbs.ROOM];
        private final long[] wide = new long[2 * Limbs.ROOM];
        private final long[] frozen = new long[Limbs.ROOM];
        private final long[] reduced = new long[Limbs.ROOM];
        private final long[] power = new long[Limbs.ROOM];
        private final long[] kept = new long[Limbs.ROOM];
        private final long[] inverse = new long[Limbs.ROOM];
        private final long[] difference = new long[Limbs.ROOM];

        Field(boolean is448) {
            this.is448 = is448;
            bytes = is448 ? 56 : 32;
            limbs = is448 ? 16 : 9;
            bits = is448 ? 28 : 29;
            topBits = is448 ? 28 : 23;
            mask = (1L << bits) - 1;
            topMask = (1L << topBits) - 1;
            one[0] = 1;
            for (int i = 0; i < limbs; i++) {
                prime[i] = mask;
            }
            prime[limbs - 1] = topMask;
            if (is448) {
                prime[MIDDLE] -= 1;
            } else {
                prime[0] -= 18;
            }
        }

        long[] constant(String hex) {
            return Limbs.fromHex(hex, bits);
        }

        /** Bits above the prime's are left out; a number from the prime on stands for its rest. */
        void read(long[] to, int[] from) {
            Limbs.fromBytes(to, bits, from, bytes);
            to[limbs - 1] &= topMask;
        }

        void write(int[] to, long[] x) {
            freeze(x);
            Limbs.toBytes(to, 0, bytes, frozen, bits);
        }

        void copy(long[] to, long[] x) {
            System.arraycopy(x, 0, to, 0, limbs);
        }

        void plus(long[] to, long[] a, long[] b) {
            for (int i = 0; i < limbs; i++) {
                to[i] = a[i] + b[i];
            }
            carry(to, to);
        }

        void minus(long[] to, long[] a, long[] b) {
            for (int i = 0; i < limbs; i++) {
                to[i] = a[i] - b[i];
            }
            carry(to, to);
        }

        void negate(long[] to, long[] x) {
            for (int i = 0; i < limbs; i++) {
                to[i] = -x[i];
            }
            carry(to, to);
        }

        void multiply(long[] to, long[] a, long[] b) {
            long[] columns = wide;
            int n = limbs;
            Arrays.fill(columns, 0L);
            for (int i = 0; i < n; i++) {
                long limb = a[i];
                for (int j = 0; j < n; j++) {
                    columns[i + j] += limb * b[j];
                }
            }
            fold();
            carry(to, wide);
            carry(to, to);
        }

        void square(long[] to, long[] x) {
            long[] columns = wide;
            int n = limbs;
            Arrays.fill(columns, 0L);
            for (int i = 0; i < n; i++) {
                long limb = x[i];
                columns[2 * i] += limb * limb;
                long twice = 2 * limb;
                for (int j = i + 1; j < n; j++) {
                    columns[i + j] += twice * x[j];
                }
            }
            fold();
            carry(to, wide);
            carry(to, to);
        }

        void multiplySmall(long[] to, long[] x, int factor) {
            for (int i = 0; i < limbs; i++) {
                to[i] = factor * x[i];
            }
            carry(to, to);
            carry(to, to);
        }

        void invert(long[] to, long[] x) {
            rootPower(inverse, x);
            square(inverse, inverse);
            square(inverse, inverse);
            multiply(inverse, inverse, x);
            if (!is448) {
                square(inverse, inverse);
                multiply(inverse, inverse, x);
            }
            copy(to, inverse);
        }

        /**
         * x to the power (p - 5) / 8 or (p - 3) / 4, from which come roots and inverses. In bits, the
         * exponent is 250 ones, 0, 1 or 223 ones, 0, 222 ones: so a run of ones is doubled up first.
         */
        void rootPower(long[] to, long[] x) {
            int goal = is448 ? 222 : 250;
            int ones = 1;
            copy(power, x);
            for (int bit = 6; bit >= 0; bit--) {
                copy(kept, power);
                for (int i = 0; i < ones; i++) {
                    square(power, power);
                }
                multiply(power, power, kept);
                ones *= 2;
                if ((goal >> bit & 1) == 1) {
                    square(power, power);
                    multiply(power, power, x);
                    ones++;
                }
            }
            copy(kept, x);
            if (is448) {
                copy(kept, power);
                square(power, power);
                multiply(power, power, x);
            }
            int behind = is448 ? 223 : 2;
            for (int i = 0; i < behind; i++) {
                square(power, power);
            }
            multiply(to, power, kept);
        }

        boolean isZero(long[] x) {
            freeze(x);
            return isFrozenZero();
        }

        boolean isOdd(long[] x) {
            freeze(x);
            return (frozen[0] & 1) == 1;
        }

        boolean areEqual(long[] a, long[] b) {
            minus(difference, a, b);
            freeze(difference);
            return isFrozenZero();
        }

        private boolean isFrozenZero() {
            long all = 0;
            for (int i = 0; i < limbs; i++) {
                all |= frozen[i];
            }
            return all == 0;
        }

        /** Brings the upper columns of a product down: 2^261 is 19 * 64, 2^448 is 2^224 + 1. */
        private void fold() {
            for (int k = 2 * limbs - 2; k >= limbs; k--) {
                long column = wide[k];
                if (is448) {
                    wide[k - limbs] += column;
                    wide[k - MIDDLE] += column;
                } else {
                    wide[k - limbs] += 1216 * (column & mask);
                    wide[k - limbs + 1] += 1216 * (column >> bits);
                }
            }
        }

        private void carry(long[] to, long[] from) {
            long up = 0;
            int top = limbs - 1;
            for (int i = 0; i < top; i++) {
                long sum = from[i] + up;
                to[i] = sum & mask;
                up = sum >> bits;
            }
            long sum = from[top] + up;
            to[top] = sum & topMask;
            up = sum >> topBits;
            if (is448) {
                to[0] += up;
                to[MIDDLE] += up;
            } else {
                to[0] += 19 * up;
            }
        }

        /**
         * Leaves in frozen the one number below the prime that x stands for. The prime that is added
         * makes x positive; three passes then bring it below 2^255 or 2^448, so that at most one
         * prime is too much.
         */
        private void freeze(long[] x) {
            for (int i = 0; i < limbs; i++) {
                frozen[i] = x[i] + prime[i];
            }
            carry(frozen, frozen);
            carry(frozen, frozen);
            carry(frozen, frozen);
            long up = 0;
            for (int i = 0; i < limbs; i++) {
                long rest = frozen[i] - prime[i] + up;
                reduced[i] = rest & mask;
                up = rest >> bits;
            }
            if (up == 0) {
                copy(frozen, reduced);
            }
        }
    }

    /** X25519 or X448, by the Montgomery ladder of RFC 7748. */
    private static final class Agreement {
        final int keyBytes;
        private final boolean is448;
        private final Field field;
        private final int[] scalar = new int[KEY_ROOM];
        private final long[] start = new long[Limbs.ROOM];
        private final long[] lowX = new long[Limbs.ROOM];
        private final long[] lowZ = new long[Limbs.ROOM];
        private final long[] highX = new long[Limbs.ROOM];
        private final long[] highZ = new long[Limbs.ROOM];
        private final long[] a = new long[Limbs.ROOM];
        private final long[] b = new long[Limbs.ROOM];
        private final long[] c = new long[Limbs.ROOM];
        private final long[] d = new long[Limbs.ROOM];
        private final long[] e = new long[Limbs.ROOM];

        Agreement(boolean is448, Field field) {
            this.is448 = is448;
            this.field = field;
            keyBytes = is448 ? 56 : 32;
        }

        void startFromBase() {
            Arrays.fill(start, 0L);
            start[0] = is448 ? 5 : 9;
        }

        void startFrom(int[] key) {
            field.read(start, key);
        }

        /** Writes the agreement of the secret with the start that was set; false if it is all 0. */
        boolean climb(int[] to, int[] secret) {
            loadScalar(secret);
            field.copy(lowX, field.one);
            Arrays.fill(lowZ, 0L);
            field.copy(highX, start);
            field.copy(highZ, field.one);
            for (int t = is448 ? 447 : 254; t >= 0; t--) {
                if ((scalar[t >> 3] >> (t & 7) & 1) == 0) {
                    step(lowX, lowZ, highX, highZ);
                } else {
                    step(highX, highZ, lowX, lowZ);
                }
            }
            field.invert(lowZ, lowZ);
            field.multiply(lowX, lowX, lowZ);
            field.write(to, lowX);
            return !field.isZero(lowX);
        }

        private void loadScalar(int[] secret) {
            System.arraycopy(secret, 0, scalar, 0, keyBytes);
            if (is448) {
                scalar[0] &= 252;
                scalar[55] |= 128;
            } else {
                scalar[0] &= 248;
                scalar[31] = scalar[31] & 127 | 64;
            }
        }

        /** Doubles the point (x2 : z2) and adds it to (x3 : z3); the letters are those of the RFC. */
        private void step(long[] x2, long[] z2, long[] x3, long[] z3) {
            field.plus(a, x2, z2);
            field.minus(b, x2, z2);
            field.plus(c, x3, z3);
            field.minus(d, x3, z3);
            field.multiply(d, d, a);
            field.multiply(c, c, b);
            field.plus(x3, d, c);
            field.square(x3, x3);
            field.minus(z3, d, c);
            field.square(z3, z3);
            field.multiply(z3, z3, start);
            field.square(a, a);
            field.square(b, b);
            field.minus(e, a, b);
            field.multiply(x2, a, b);
            field.multiplySmall(z2, e, is448 ? 39081 : 121665);
            field.plus(z2, z2, a);
            field.multiply(z2, z2, e);
        }
    }

    /** A point (x : y : z) of an Edwards curve, z not 0; the neutral one, which both curves have, at first. */
    private static final class Point {
        final long[] x = new long[Limbs.ROOM];
        final long[] y = new long[Limbs.ROOM];
        final long[] z = new long[Limbs.ROOM];

        Point() {
            y[0] = 1;
            z[0] = 1;
        }
    }

    /**
     * The points of edwards25519 (-x^2 + y^2 = 1 + d x^2 y^2) or edwards448 (x^2 + y^2 = 1 + d x^2 y^2).
     * On both, d is no square: the formulas hold for all points, and no z is ever 0.
     */
    private static final class Curve {
        private static final String D_25519 = "52036cee2b6ffe738cc740797779e89800700a4d4141d8ab75eb4dca135978a3";
        private static final String ROOT_OF_MINUS_ONE = "2b8324804fc1df0b2b4d00993dfbd7a72f431806ad2fe478c4ee1b274a0ea0b0";
        private static final String X_25519 = "216936d3cd6e53fec0a4e231fdd6dc5c692cc7609525a7b2c9562d608f25d51a";
        private static final String Y_25519 = "6666666666666666666666666666666666666666666666666666666666666658";
        private static final String X_448 = "4f1970c66bed0ded221d15a622bf36da9e146570470f1767ea6de324a3d3a46412ae1af72ab66511433b80e18b00938e2626a82bc70cc05e";
        private static final String Y_448 = "693f46716eb6bc248876203756c9c7624bea73736ca3984087789c1e05a0c2d73ad3ff1ce67c39c4fdbd132c4ed7c8ad9808795bf230fa14";
        private static final String MINUS_D_448 = "98a9";
        private static final int TABLE = 16;

        final int codeBytes;
        final Point base;
        private final boolean is448;
        private final Field field;
        private final long[] constantD;
        private final long[] rootOfMinusOne;
        private final Point[] table = new Point[TABLE];
        private final Point fourfold = new Point();
        private final int[] digits = new int[4 * KEY_ROOM];
        private final int[] codeAgain = new int[KEY_ROOM];
        private final long[] a = new long[Limbs.ROOM];
        private final long[] b = new long[Limbs.ROOM];
        private final long[] c = new long[Limbs.ROOM];
        private final long[] d = new long[Limbs.ROOM];
        private final long[] e = new long[Limbs.ROOM];
        private final long[] f = new long[Limbs.ROOM];
        private final long[] g = new long[Limbs.ROOM];
        private final long[] h = new long[Limbs.ROOM];

        Curve(boolean is448, Field field) {
            this.is448 = is448;
            this.field = field;
            codeBytes = is448 ? 57 : 32;
            rootOfMinusOne = field.constant(ROOT_OF_MINUS_ONE);
            long[] factor = field.constant(is448 ? MINUS_D_448 : D_25519);
            if (is448) {
                field.negate(factor, factor);
            }
            constantD = factor;
            Point generator = new Point();
            field.copy(generator.x, field.constant(is448 ? X_448 : X_25519));
            field.copy(generator.y, field.constant(is448 ? Y_448 : Y_25519));
            base = generator;
            for (int i = 0; i < TABLE; i++) {
                table[i] = new Point();
            }
        }

        void sum(Point to, Point p, Point q) {
            field.multiply(a, p.z, q.z);
            field.square(b, a);
            field.multiply(c, p.x, q.x);
            field.multiply(d, p.y, q.y);
            field.multiply(e, c, d);
            field.multiply(e, e, constantD);
            field.minus(f, b, e);
            field.plus(g, b, e);
            field.plus(h, p.x, p.y);
            field.plus(b, q.x, q.y);
            field.multiply(h, h, b);
            field.plus(e, d, c);
            field.minus(h, h, e);
            if (is448) {
                field.minus(e, d, c);
            }
            field.multiply(to.z, f, g);
            field.multiply(f, f, a);
            field.multiply(to.x, f, h);
            field.multiply(g, g, a);
            field.multiply(to.y, g, e);
        }

        void twice(Point to, Point p) {
            field.plus(b, p.x, p.y);
            field.square(b, b);
            field.square(c, p.x);
            field.square(d, p.y);
            field.square(h, p.z);
            field.plus(e, d, c);
            field.minus(g, d, c);
            field.minus(b, b, e);
            long[] left = is448 ? e : g;
            field.plus(h, h, h);
            field.minus(h, h, left);
            field.multiply(to.x, b, h);
            field.multiply(to.y, e, g);
            field.multiply(to.z, left, h);
        }

        void negate(Point to, Point p) {
            field.negate(to.x, p.x);
            field.copy(to.y, p.y);
            field.copy(to.z, p.z);
        }

        /** Four bits of the number at a time, from the highest on; the number is as long as a code. */
        void multiply(Point to, int[] number, Point p) {
            twice(fourfold, p);
            twice(fourfold, fourfold);
            fillTable(p, fourfold);
            int count = 2 * codeBytes;
            for (int i = 0; i < count; i++) {
                digits[i] = number[i >> 1] >> 4 * (i & 1) & 15;
            }
            walk(to, count, 4);
        }

        /** m p + n q: two bits of each number at a time, so that both share the doublings. */
        void multiplyTwo(Point to, int[] m, Point p, int[] n, Point q) {
            fillTable(p, q);
            int count = 4 * codeBytes;
            for (int i = 0; i < count; i++) {
                int shift = 2 * (i & 3);
                digits[i] = (m[i >> 2] >> shift & 3) + 4 * (n[i >> 2] >> shift & 3);
            }
            walk(to, count, 2);
        }

        boolean isNeutral(Point p) {
            return field.isZero(p.x) && field.areEqual(p.y, p.z);
        }

        boolean areEqual(Point p, Point q) {
            field.multiply(a, p.x, q.z);
            field.multiply(b, q.x, p.z);
            field.multiply(c, p.y, q.z);
            field.multiply(d, q.y, p.z);
            return field.areEqual(a, b) && field.areEqual(c, d);
        }

        int smallOrder(Point p) {
            copy(fourfold, p);
            for (int times = 1; times <= 8; times *= 2) {
                if (isNeutral(fourfold)) {
                    return times;
                }
                twice(fourfold, fourfold);
            }
            return 0;
        }

        void encode(int[] to, Point p) {
            field.invert(a, p.z);
            field.multiply(b, p.x, a);
            field.multiply(c, p.y, a);
            writeCode(to, c, field.isOdd(b));
        }

        /** The point of a code; false, and the point left alone, if the bytes are no code. */
        boolean decode(Point to, int[] code) {
            boolean odd = code[codeBytes - 1] >= 128;
            field.read(b, code);
            writeCode(codeAgain, b, odd);
            for (int i = 0; i < codeBytes; i++) {
                if (codeAgain[i] != code[i]) {
                    return false;
                }
            }
            if (!findX() || odd && field.isZero(a)) {
                return false;
            }
            if (field.isOdd(a) != odd) {
                field.negate(a, a);
            }
            field.copy(to.x, a);
            field.copy(to.y, b);
            field.copy(to.z, field.one);
            return true;
        }

        /**
         * Finds in a one x for the y in b: x^2 = u / v, u = y^2 - 1, v = d y^2 -+ 1. With the root
         * power, (u (u v)^e)^2 v is u times a root of unity; -1 can be mended on 25519 alone.
         */
        private boolean findX() {
            field.square(c, b);
            field.multiply(d, c, constantD);
            field.minus(c, c, field.one);
            if (is448) {
                field.minus(d, d, field.one);
            } else {
                field.plus(d, d, field.one);
            }
            field.multiply(e, c, d);
            field.rootPower(a, e);
            field.multiply(a, a, c);
            field.square(e, a);
            field.multiply(e, e, d);
            if (field.areEqual(e, c)) {
                return true;
            }
            field.negate(e, e);
            if (is448 || !field.areEqual(e, c)) {
                return false;
            }
            field.multiply(a, a, rootOfMinusOne);
            return true;
        }

        private void writeCode(int[] to, long[] y, boolean odd) {
            to[codeBytes - 1] = 0;
            field.write(to, y);
            if (odd) {
                to[codeBytes - 1] |= 128;
            }
        }

        private void copy(Point to, Point p) {
            field.copy(to.x, p.x);
            field.copy(to.y, p.y);
            field.copy(to.z, p.z);
        }

        /** Place i + 4 j gets i low + j high (i and j up to 3); place 0 is always the neutral point. */
        private void fillTable(Point low, Point high) {
            for (int i = 1; i < TABLE; i++) {
                if (i < 4) {
                    sum(table[i], table[i - 1], low);
                } else {
                    sum(table[i], table[i - 4], high);
                }
            }
        }

        private void walk(Point to, int count, int width) {
            int left = count;
            while (left > 0 && digits[left - 1] == 0) {
                left--;
            }
            copy(to, table[left > 0 ? digits[left - 1] : 0]);
            for (int i = left - 2; i >= 0; i--) {
                for (int k = 0; k < width; k++) {
                    twice(to, to);
                }
                if (digits[i] != 0) {
                    sum(to, to, table[digits[i]]);
                }
            }
        }
    }

    /** Numbers below the order of a curve's group, in limbs of 28 bits. */
    private static final class Scalars {
        private static final String ORDER_25519 = "1000000000000000000000000000000014def9dea2f79cd65812631a5cf5d3ed";
        private static final String ORDER_448 = "3fffffffffffffffffffffffffffffffffffffffffffffffffffffff7cca23e9c44edb49aed63690216cc2728dc58f552378c292ab5844f3";
        private static final int BITS = 28;
        private static final long MASK = (1L << BITS) - 1;

        private final int bytes;
        private final int limbs;
        private final long[] groupOrder;
        private final int[] orderBytes;
        private final long[] one = new long[Limbs.ROOM];
        private final long[] reduced = new long[Limbs.ROOM];

        Scalars(boolean is448) {
            bytes = is448 ? 57 : 32;
            limbs = is448 ? 16 : 10;
            long[] limbsOfOrder = Limbs.fromHex(is448 ? ORDER_448 : ORDER_25519, BITS);
            int[] bytesOfOrder = new int[KEY_ROOM];
            Limbs.toBytes(bytesOfOrder, 0, bytes, limbsOfOrder, BITS);
            groupOrder = limbsOfOrder;
            orderBytes = bytesOfOrder;
            one[0] = 1;
        }

        /** Whether the bytes from a place on, the lowest first, are a number below the order. */
        boolean isBelowOrder(int[] number, int from) {
            for (int i = bytes - 1; i >= 0; i--) {
                if (number[from + i] != orderBytes[i]) {
                    return number[from + i] < orderBytes[i];
                }
            }
            return false;
        }

        void reduce(long[] to, int[] number, int n) {
            multiply(to, number, n, one);
        }

        /** The first n bytes of a number, the lowest first, times a factor below the order. */
        void multiply(long[] to, int[] number, int n, long[] factor) {
            Arrays.fill(to, 0L);
            for (int bit = 8 * n - 1; bit >= 0; bit--) {
                increase(to, to);
                if ((number[bit >> 3] >> (bit & 7) & 1) == 1) {
                    increase(to, factor);
                }
            }
        }

        /** Adds, modulo the order. */
        void increase(long[] to, long[] by) {
            long up = 0;
            for (int i = 0; i < limbs; i++) {
                long sum = to[i] + by[i] + up;
                to[i] = sum & MASK;
                up = sum >> BITS;
            }
            up = 0;
            for (int i = 0; i < limbs; i++) {
                long rest = to[i] - groupOrder[i] + up;
                reduced[i] = rest & MASK;
                up = rest >> BITS;
            }
            if (up == 0) {
                System.arraycopy(reduced, 0, to, 0, limbs);
            }
        }

        void write(int[] to, int from, long[] x) {
            Limbs.toBytes(to, from, bytes, x, BITS);
        }
    }

    /** Ed25519 with its ctx and ph forms, or Ed448 and its ph form. */
    private static final class Signer {
        private static final String LABEL_25519 = "SigEd25519 no Ed25519 collisions";
        private static final String LABEL_448 = "SigEd448";
        private static final int PREHASH_BYTES = 64;
        /** More than label, context, two codes and message have together. */
        private static final int TEXT_ROOM = 512;

        private final boolean is448;
        private final int codeBytes;
        private final Curve curve;
        private final Scalars scalars;
        private final Digest hasher;
        private final Row prefix = new Row(TEXT_ROOM);
        private final Row body = new Row(MESSAGE_ROOM);
        private final Row text = new Row(TEXT_ROOM);
        private final int[] expanded = new int[SIGNATURE_ROOM];
        private final int[] hashed = new int[SIGNATURE_ROOM];
        private final int[] ownKey = new int[KEY_ROOM];
        private final int[] number = new int[KEY_ROOM];
        private final int[] response = new int[KEY_ROOM];
        private final long[] nonce = new long[Limbs.ROOM];
        private final long[] secretScalar = new long[Limbs.ROOM];
        private final long[] answer = new long[Limbs.ROOM];
        private final Point result = new Point();
        private final Point key = new Point();
        private final Point commitment = new Point();

        Signer(boolean is448, Curve curve, Digest hasher) {
            this.is448 = is448;
            this.curve = curve;
            this.hasher = hasher;
            codeBytes = curve.codeBytes;
            scalars = new Scalars(is448);
        }

        /** Sets what is signed or verified next: the RFC's dom(F, C) and PH(M). */
        void choose(Row message, Row context, boolean ph) {
            prefix.count = 0;
            if (is448 || ph || context.count > 0) {
                prefix.appendText(is448 ? LABEL_448 : LABEL_25519);
                prefix.append(ph ? 1 : 0);
                prefix.append(context.count);
                prefix.appendPart(context.bytes, 0, context.count);
            }
            body.count = 0;
            if (ph) {
                hasher.digest(body.bytes, message, PREHASH_BYTES);
                body.count = PREHASH_BYTES;
            } else {
                body.appendPart(message.bytes, 0, message.count);
            }
        }

        void publicKey(int[] to, int[] secret) {
            expand(secret);
            curve.multiply(result, expanded, curve.base);
            curve.encode(to, result);
        }

        void makeSignature(int[] to, int[] secret) {
            expand(secret);
            curve.multiply(result, expanded, curve.base);
            curve.encode(ownKey, result);
            hashNonce();
            scalars.reduce(nonce, hashed, 2 * codeBytes);
            scalars.write(number, 0, nonce);
            curve.multiply(result, number, curve.base);
            curve.encode(to, result);
            hashChallenge(to, ownKey);
            scalars.reduce(secretScalar, expanded, codeBytes);
            scalars.multiply(answer, hashed, 2 * codeBytes, secretScalar);
            scalars.increase(answer, nonce);
            scalars.write(to, codeBytes, answer);
        }

        boolean isVerified(int[] signature, int[] publicKey) {
            if (!curve.decode(key, publicKey) || !curve.decode(commitment, signature)
                    || !scalars.isBelowOrder(signature, codeBytes)) {
                return false;
            }
            hashChallenge(signature, publicKey);
            scalars.reduce(answer, hashed, 2 * codeBytes);
            scalars.write(number, 0, answer);
            System.arraycopy(signature, codeBytes, response, 0, codeBytes);
            curve.negate(key, key);
            curve.negate(commitment, commitment);
            curve.multiplyTwo(result, response, curve.base, number, key);
            curve.sum(result, result, commitment);
            int doublings = is448 ? 2 : 3;
            for (int i = 0; i < doublings; i++) {
                curve.twice(result, result);
            }
            return curve.isNeutral(result);
        }

        /** Leaves in expanded the secret number and, behind it, what makes the nonce. */
        private void expand(int[] secret) {
            text.count = 0;
            text.appendPart(secret, 0, codeBytes);
            hasher.digest(expanded, text, 2 * codeBytes);
            if (is448) {
                expanded[0] &= 252;
                expanded[55] |= 128;
                expanded[56] = 0;
            } else {
                expanded[0] &= 248;
                expanded[31] = expanded[31] & 127 | 64;
            }
        }

        private void hashNonce() {
            text.count = 0;
            text.appendPart(prefix.bytes, 0, prefix.count);
            text.appendPart(expanded, codeBytes, codeBytes);
            text.appendPart(body.bytes, 0, body.count);
            hasher.digest(hashed, text, 2 * codeBytes);
        }

        private void hashChallenge(int[] commitmentCode, int[] keyCode) {
            text.count = 0;
            text.appendPart(prefix.bytes, 0, prefix.count);
            text.appendPart(commitmentCode, 0, codeBytes);
            text.appendPart(keyCode, 0, codeBytes);
            text.appendPart(body.bytes, 0, body.count);
            hasher.digest(hashed, text, 2 * codeBytes);
        }
    }
}
