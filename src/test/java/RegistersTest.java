import java.util.Arrays;

/** Promises 1 to 7: a new object, put, feed, clear, move, look, size. */
public final class RegistersTest {
    private static final int[] ROOMS = {57, 57, 114};

    public static void main(String[] args) {
        newObject();
        putBytes();
        putRefused();
        feedAndClear();
        feedRefused();
        moveOut();
        lookRefused();
        objectsAreApart();
        Check.finish();
    }

    private static void newObject() {
        CurveSuite x = new CurveSuite();
        for (int r = 0; r < 3; r++) {
            Check.same("register " + r + " at first", new byte[ROOMS[r]], Check.register(x, r, ROOMS[r]));
        }
        Check.same("OUT at first", 0, x.size());
        CurveSuite y = new CurveSuite();
        Check.same("MESSAGE is empty at first", 1, y.feed(false, 0, 1));
        Check.same("CONTEXT is empty at first", 1, y.feed(true, 0, 1));
        for (int place = 0; place < 3; place++) {
            Check.same("a place is neutral at first", 1, y.order(place, 0));
            Check.same("and of order 1", 1, y.order(place, 1));
            Check.same("and of curve 0", 0, y.order(place, 2));
        }
        Check.same("moving an empty OUT", 0, y.move(0));
    }

    private static void putBytes() {
        for (int r = 0; r < 3; r++) {
            for (int n = 1; n <= 8; n++) {
                CurveSuite x = new CurveSuite();
                byte[] due = new byte[ROOMS[r]];
                x.put(r, 3, 0xf1e2d3c4b5a69788L, n);
                x.put(r, ROOMS[r] - n, 0x8877665544332211L, n);
                x.put(r, 0, -1L, 1);
                byte[] first = Check.bytes("f1e2d3c4b5a69788");
                byte[] last = Check.bytes("8877665544332211");
                System.arraycopy(first, 8 - n, due, 3, n);
                System.arraycopy(last, 8 - n, due, ROOMS[r] - n, n);
                due[0] = -1;
                Check.same("put of " + n + " bytes into " + r, due, Check.register(x, r, ROOMS[r]));
                Check.same("and no other register", 0, x.look((r + 1) % 3, 0) + x.look((r + 2) % 3, 0));
            }
        }
    }

    private static void putRefused() {
        CurveSuite x = new CurveSuite();
        for (int n : new int[] {0, -1, 9, Integer.MIN_VALUE, Integer.MAX_VALUE}) {
            Check.illegal("put of n " + n, () -> x.put(0, 0, 1, n));
            Check.illegal("put of n " + n + " at no place", () -> x.put(0, -1, 1, n));
        }
        for (int r : new int[] {-1, 3, 4, Integer.MIN_VALUE, Integer.MAX_VALUE}) {
            Check.illegal("put into " + r, () -> x.put(r, 0, 1, 1));
            Check.illegal("put into " + r + " at no place", () -> x.put(r, 200, 1, 1));
        }
        for (int r = 0; r < 3; r++) {
            int register = r;
            for (int place : new int[] {-1, ROOMS[r] - 3, ROOMS[r], Integer.MIN_VALUE, Integer.MAX_VALUE}) {
                Check.fails("put at " + place, IndexOutOfBoundsException.class, () -> x.put(register, place, -1, 4));
            }
            Check.same("a refused put changes nothing", new byte[ROOMS[r]], Check.register(x, r, ROOMS[r]));
        }
    }

    private static void feedAndClear() {
        CurveSuite x = new CurveSuite();
        Check.same("feed", 3, x.feed(false, 0xff616263L, 3));
        Check.same("feed counts on", 4, x.feed(false, 0x64, 1));
        Check.same("feed of context", 8, x.feed(true, -1, 8));
        Check.same("feed of message again", 12, x.feed(false, 0x65666768696a6b6cL, 8));
        x.hash(false, 0);
        Check.same("the bytes of MESSAGE", Reference.sha512("abcdefghijkl".getBytes()), Check.out(x));
        x.clear(true);
        Check.same("clear of context leaves MESSAGE", 13, x.feed(false, 0x6d, 1));
        Check.same("clear of context", 2, x.feed(true, 7, 2));
        x.clear(false);
        Check.same("clear of message leaves CONTEXT", 3, x.feed(true, 7, 1));
        Check.same("clear leaves OUT", 64, x.size());
        x.hash(false, 0);
        Check.same("a cleared MESSAGE", Reference.sha512(new byte[0]), Check.out(x));
        Check.same("feed after clear", 1, x.feed(false, 0x178, 1));
        x.hash(false, 0);
        Check.same("the bytes after clear", Reference.sha512("x".getBytes()), Check.out(x));
    }

    private static void feedRefused() {
        CurveSuite x = new CurveSuite();
        for (int n : new int[] {0, -1, 9, Integer.MIN_VALUE, Integer.MAX_VALUE}) {
            Check.illegal("feed of n " + n, () -> x.feed(false, 1, n));
            Check.illegal("feed of n " + n + " to CONTEXT", () -> x.feed(true, 1, n));
        }
        for (int i = 1; i <= 31; i++) {
            Check.same("feed", 8 * i, x.feed(false, i, 8));
        }
        Check.same("feed", 255, x.feed(false, 1, 7));
        Check.fails("feed of 257 bytes", IllegalStateException.class, () -> x.feed(false, 1, 2));
        Check.same("feed to the brim", 256, x.feed(false, 1, 1));
        Check.fails("feed into a full one", IllegalStateException.class, () -> x.feed(false, 1, 1));
        Check.illegal("feed of no n into a full one", () -> x.feed(false, 1, 0));
        for (int i = 1; i <= 7; i++) {
            Check.same("feed", 8 * i, x.feed(true, i, 8));
        }
        Check.same("feed", 60, x.feed(true, 1, 4));
        Check.fails("feed of 65 bytes", IllegalStateException.class, () -> x.feed(true, 1, 5));
        Check.same("feed to the brim", 64, x.feed(true, 1, 4));
        Check.fails("feed into a full one", IllegalStateException.class, () -> x.feed(true, 1, 1));
        x.clear(true);
        Check.same("feed after clear", 8, x.feed(true, 1, 8));
        Check.fails("MESSAGE is still full", IllegalStateException.class, () -> x.feed(false, 1, 8));
    }

    private static void moveOut() {
        for (int r = 0; r < 3; r++) {
            for (int n : new int[] {0, 1, 56, 57, 58, 113, 114}) {
                CurveSuite x = new CurveSuite();
                byte[] full = new byte[ROOMS[r]];
                Arrays.fill(full, (byte) 0xa5);
                Check.load(x, r, full);
                x.hash(true, n);
                byte[] out = Check.out(x);
                int came = Math.min(n, ROOMS[r]);
                Check.same("move of " + n + " to " + r, came, x.move(r));
                System.arraycopy(out, 0, full, 0, came);
                Check.same("what came", full, Check.register(x, r, ROOMS[r]));
                Check.same("move leaves OUT", out, Check.out(x));
            }
        }
        CurveSuite x = new CurveSuite();
        x.hash(false, 0);
        for (int r : new int[] {-1, 3, Integer.MIN_VALUE, Integer.MAX_VALUE}) {
            Check.illegal("move to " + r, () -> x.move(r));
        }
        Check.same("a refused move leaves OUT", 64, x.size());
    }

    private static void lookRefused() {
        CurveSuite x = new CurveSuite();
        for (int r : new int[] {-1, 4, Integer.MIN_VALUE, Integer.MAX_VALUE}) {
            Check.illegal("look into " + r, () -> x.look(r, 0));
            Check.illegal("look into " + r + " at no byte", () -> x.look(r, -1));
        }
        for (int r = 0; r < 3; r++) {
            int register = r;
            for (int k : new int[] {-1, ROOMS[r], Integer.MIN_VALUE, Integer.MAX_VALUE}) {
                Check.fails("look at " + k, IndexOutOfBoundsException.class, () -> x.look(register, k));
            }
        }
        Check.fails("look into an empty OUT", IndexOutOfBoundsException.class, () -> x.look(3, 0));
        x.hash(true, 5);
        Check.same("OUT has its last byte", true, x.look(3, 4) >= 0);
        Check.fails("look behind OUT", IndexOutOfBoundsException.class, () -> x.look(3, 5));
        Check.fails("look before OUT", IndexOutOfBoundsException.class, () -> x.look(3, -1));
        x.hash(false, 0);
        x.hash(true, 5);
        Check.fails("look behind a shorter OUT", IndexOutOfBoundsException.class, () -> x.look(3, 5));
    }

    private static void objectsAreApart() {
        CurveSuite x = new CurveSuite();
        CurveSuite y = new CurveSuite();
        x.put(0, 0, -1, 8);
        x.feed(false, 1, 8);
        x.hash(false, 0);
        Check.same("another object's register", 0, y.look(0, 0));
        Check.same("another object's MESSAGE", 1, y.feed(false, 1, 1));
        Check.same("another object's OUT", 0, y.size());
    }
}
