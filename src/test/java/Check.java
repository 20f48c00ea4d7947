import java.util.Arrays;
import java.util.HexFormat;
import java.util.Random;

/** What the tests share: counting what is wrong, and driving a CurveSuite with whole rows of bytes. */
final class Check {
    static final int SECRET = 0;
    static final int PUBLIC = 1;
    static final int SIGNATURE = 2;
    static final int OUT = 3;

    private static int checked = 0;
    private static int wrong = 0;

    private Check() {
    }

    static void same(String what, long due, long got) {
        checked++;
        if (due != got) {
            report(what, Long.toString(due), Long.toString(got));
        }
    }

    static void same(String what, boolean due, boolean got) {
        same(what, due ? 1 : 0, got ? 1 : 0);
    }

    static void same(String what, byte[] due, byte[] got) {
        checked++;
        if (!Arrays.equals(due, got)) {
            report(what, hex(due), hex(got));
        }
    }

    static void fails(String what, Class<? extends RuntimeException> due, Runnable call) {
        checked++;
        String got = "nothing";
        try {
            call.run();
        } catch (RuntimeException e) {
            got = e.getClass().getName();
        }
        if (!got.equals(due.getName())) {
            report(what, due.getName(), got);
        }
    }

    static void illegal(String what, Runnable call) {
        fails(what, IllegalArgumentException.class, call);
    }

    static void outOfBounds(String what, Runnable call) {
        fails(what, IndexOutOfBoundsException.class, call);
    }

    static void wrongState(String what, Runnable call) {
        fails(what, IllegalStateException.class, call);
    }

    /** The first number outside a range on each side, some that a narrower type would take for one inside, the ends of int. */
    static int[] outside(int lowest, int highest) {
        return new int[] {lowest - 1, highest + 1, lowest - 256, highest + 256, highest + 65536,
            Integer.MIN_VALUE, Integer.MAX_VALUE};
    }

    private static void report(String what, String due, String got) {
        wrong++;
        System.out.println(what + ": due is " + due + ", got " + got);
    }

    static void finish() {
        System.out.println(checked + " checks, " + wrong + " wrong");
        if (wrong != 0) {
            System.exit(1);
        }
    }

    static byte[] bytes(String hex) {
        return HexFormat.of().parseHex(hex.replace(" ", ""));
    }

    static String hex(byte[] bytes) {
        return HexFormat.of().formatHex(bytes);
    }

    static byte[] filled(int n, int value) {
        byte[] bytes = new byte[n];
        Arrays.fill(bytes, (byte) value);
        return bytes;
    }

    static byte[] random(Random random, int n) {
        byte[] bytes = new byte[n];
        random.nextBytes(bytes);
        return bytes;
    }

    static byte[] join(byte[]... parts) {
        int n = 0;
        for (byte[] part : parts) {
            n += part.length;
        }
        byte[] all = new byte[n];
        int at = 0;
        for (byte[] part : parts) {
            System.arraycopy(part, 0, all, at, part.length);
            at += part.length;
        }
        return all;
    }

    /** A new object with SECRET, PUBLIC and SIGNATURE as given (each may be null). */
    static CurveSuite suite(byte[] secret, byte[] publicKey, byte[] signature) {
        CurveSuite x = new CurveSuite();
        load(x, SECRET, secret);
        load(x, PUBLIC, publicKey);
        load(x, SIGNATURE, signature);
        return x;
    }

    static void load(CurveSuite x, int register, byte[] bytes) {
        for (int i = 0; bytes != null && i < bytes.length; i += 8) {
            int n = Math.min(8, bytes.length - i);
            x.put(register, i, word(bytes, i, n), n);
        }
    }

    static void feed(CurveSuite x, boolean context, byte[] bytes) {
        for (int i = 0; i < bytes.length; i += 8) {
            int n = Math.min(8, bytes.length - i);
            x.feed(context, word(bytes, i, n), n);
        }
    }

    private static long word(byte[] bytes, int from, int n) {
        long word = 0;
        for (int i = from; i < from + n; i++) {
            word = word << 8 | bytes[i] & 255;
        }
        return word;
    }

    static byte[] out(CurveSuite x) {
        return register(x, OUT, x.size());
    }

    static byte[] register(CurveSuite x, int register, int n) {
        byte[] bytes = new byte[n];
        for (int i = 0; i < n; i++) {
            int value = x.look(register, i);
            same("a byte is 0 to 255", true, value >= 0 && value <= 255);
            bytes[i] = (byte) value;
        }
        return bytes;
    }

    static byte[] code(CurveSuite x, int place) {
        x.code(place);
        return out(x);
    }
}
