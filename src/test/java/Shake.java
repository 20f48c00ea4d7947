import java.util.Arrays;

/** SHAKE256 by the definitions of FIPS 202, whose tables are reckoned here, not written down; up to a block of it. */
final class Shake {
    private static final int RATE = 136;

    private Shake() {
    }

    static byte[] shake256(byte[] text, int n) {
        byte[] padded = Arrays.copyOf(text, (text.length / RATE + 1) * RATE);
        padded[text.length] = 0x1f;
        padded[padded.length - 1] |= (byte) 0x80;
        long[][] lanes = new long[5][5];
        for (int from = 0; from < padded.length; from += RATE) {
            for (int i = 0; i < RATE; i++) {
                lanes[i / 8 % 5][i / 40] ^= (padded[from + i] & 255L) << 8 * (i % 8);
            }
            permute(lanes);
        }
        byte[] out = new byte[n];
        for (int i = 0; i < n; i++) {
            out[i] = (byte) (lanes[i / 8 % 5][i / 40] >>> 8 * (i % 8));
        }
        return out;
    }

    private static void permute(long[][] lanes) {
        int register = 1;
        for (int round = 0; round < 24; round++) {
            theta(lanes);
            long[][] moved = rhoAndPi(lanes);
            for (int x = 0; x < 5; x++) {
                for (int y = 0; y < 5; y++) {
                    lanes[x][y] = moved[x][y] ^ ~moved[(x + 1) % 5][y] & moved[(x + 2) % 5][y];
                }
            }
            for (int j = 0; j < 7; j++) {
                if ((register & 1) == 1) {
                    lanes[0][0] ^= 1L << (1 << j) - 1;
                }
                register = register < 128 ? register << 1 : (register << 1 ^ 0x71) & 255;
            }
        }
    }

    private static void theta(long[][] lanes) {
        long[] columns = new long[5];
        for (int x = 0; x < 5; x++) {
            for (int y = 0; y < 5; y++) {
                columns[x] ^= lanes[x][y];
            }
        }
        for (int x = 0; x < 5; x++) {
            for (int y = 0; y < 5; y++) {
                lanes[x][y] ^= columns[(x + 4) % 5] ^ Long.rotateLeft(columns[(x + 1) % 5], 1);
            }
        }
    }

    private static long[][] rhoAndPi(long[][] lanes) {
        long[][] moved = new long[5][5];
        moved[0][0] = lanes[0][0];
        int x = 1;
        int y = 0;
        for (int t = 0; t < 24; t++) {
            int nextY = (2 * x + 3 * y) % 5;
            moved[y][nextY] = Long.rotateLeft(lanes[x][y], (t + 1) * (t + 2) / 2);
            x = y;
            y = nextY;
        }
        return moved;
    }
}
