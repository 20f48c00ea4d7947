import java.util.Arrays;
import java.util.Random;

/** The edges of promises 1 to 7; above each test stand the document's words that it holds the program to. */
public final class RegisterEdgesTest {
    private static final int[] ROOMS = {57, 57, 114};
    private static final int MESSAGE_ROOM = 256;
    private static final int CONTEXT_ROOM = 64;

    public static void main(String[] args) {
        registersAreZeroAtFirst();
        outIsEmptyAtFirst();
        messageIsEmptyAtFirst();
        contextIsEmptyAtFirst();
        placesAreNeutralAtFirst();
        putTakesOneToEightBytes();
        putTakesTheLowestBytes();
        putTakesThreeRegisters();
        putReachesBothEnds();
        putLooksAtThePlaceLast();
        feedTakesOneToEightBytes();
        feedTakesTheLowestBytes();
        feedFillsMessage();
        feedFillsContext();
        feedRefusesByteCountsFirst();
        clearOfEmpty();
        clearOfFull();
        clearOfOneLeavesTheOther();
        moveOfEmptyOut();
        moveOfShorterEqualAndLongerOut();
        moveLeavesOut();
        moveTakesThreeRegisters();
        lookTakesFourRegisters();
        lookReachesBothEnds();
        lookEndsWithOut();
        lookRefusesRegistersFirst();
        sizeIsThatOfTheLatest();
        sizeIsLeftByOtherCalls();
        Check.finish();
    }

    private static CurveSuite fed(boolean context, int n) {
        CurveSuite x = new CurveSuite();
        Check.feed(x, context, pattern(n));
        return x;
    }

    private static byte[] pattern(int n) {
        return Arrays.copyOf(Check.random(new Random(400), MESSAGE_ROOM), n);
    }

    private static byte[] hashOfMessage(CurveSuite x) {
        x.hash(false, 0);
        return Check.out(x);
    }

    /** What shows CONTEXT: a signature of an empty MESSAGE by a SECRET of zeros. */
    private static byte[] signatureInContext(CurveSuite x) {
        x.sign(0, true);
        return Check.out(x);
    }

    private static byte[] dueInContext(byte[] context) {
        return new Reference(0).sign(new byte[32], new byte[0], context, true);
    }

    /** "0 SECRET (57 bytes), 1 PUBLIC (57), 2 SIGNATURE (114), all 0 at first". */
    private static void registersAreZeroAtFirst() {
        CurveSuite x = new CurveSuite();
        for (int r = 0; r < 3; r++) {
            int register = r;
            Check.same("register " + r, new byte[ROOMS[r]], Check.register(x, r, ROOMS[r]));
            Check.outOfBounds("no byte more in register " + r, () -> x.look(register, ROOMS[register]));
        }
    }

    /** "3 OUT (...) (empty at first". */
    private static void outIsEmptyAtFirst() {
        CurveSuite x = new CurveSuite();
        Check.same("size at first", 0, x.size());
        Check.outOfBounds("no byte in OUT", () -> x.look(Check.OUT, 0));
        Check.same("nothing to move", 0, x.move(Check.SECRET));
    }

    /** "MESSAGE (...) both empty at first". */
    private static void messageIsEmptyAtFirst() {
        Check.same("hash at first", Reference.sha512(new byte[0]), hashOfMessage(new CurveSuite()));
        Check.same("feed at first", 1, new CurveSuite().feed(false, 0, 1));
    }

    /** "CONTEXT (...) both empty at first": so the first signature is Ed25519, not Ed25519ctx. */
    private static void contextIsEmptyAtFirst() {
        CurveSuite x = new CurveSuite();
        x.sign(0, false);
        byte[] due = new Reference(0).sign(new byte[32], new byte[0], new byte[0], false);
        Check.same("sign at first", due, Check.out(x));
        Check.same("feed at first", 1, new CurveSuite().feed(true, 0, 1));
    }

    /** "three of them stand in PLACES 0, 1, 2, (...) at first the neutral one of curve 0". */
    private static void placesAreNeutralAtFirst() {
        for (int place = 0; place < 3; place++) {
            CurveSuite x = new CurveSuite();
            Check.same("neutral", 1, x.order(place, 0));
            Check.same("of order 1", 1, x.order(place, 1));
            Check.same("of curve 0", 0, x.order(place, 2));
            byte[] due = new byte[32];
            due[0] = 1;
            Check.same("its code", due, Check.code(x, place));
            Check.same("the same as the next", true, x.same(place, (place + 1) % 3));
        }
    }

    /** "n bytes (1 .. 8 (...) IllegalArgumentException: n (...) is not so". */
    private static void putTakesOneToEightBytes() {
        for (int r = 0; r < 3; r++) {
            int register = r;
            CurveSuite x = new CurveSuite();
            for (int n : Check.outside(1, 8)) {
                Check.illegal("put of " + n + " bytes", () -> x.put(register, 0, -1, n));
            }
            Check.same("a refused put leaves the register", new byte[ROOMS[r]], Check.register(x, r, ROOMS[r]));
            x.put(r, 0, 0x0102030405060708L, 8);
            x.put(r, 8, 0x0102030405060708L, 1);
            Check.same("put of 8 bytes and of 1", Check.bytes("0102030405060708 08 00"), Check.register(x, r, 10));
        }
    }

    /** "the lowest n, the highest of these first"; "BYTES are 0 .. 255". */
    private static void putTakesTheLowestBytes() {
        for (int n = 1; n <= 8; n++) {
            CurveSuite x = new CurveSuite();
            x.put(2, 1, 0x80ff7f0001fe8100L, n);
            byte[] whole = Check.bytes("80ff7f0001fe8100");
            byte[] due = new byte[10];
            System.arraycopy(whole, 8 - n, due, 1, n);
            Check.same("put of " + n, due, Check.register(x, 2, 10));
            x.put(2, 1, -1, n);
            x.put(2, 1, 0, n);
            Check.same("put of zeros over others", new byte[10], Check.register(x, 2, 10));
        }
        CurveSuite x = new CurveSuite();
        x.put(0, 0, -1, 8);
        x.put(0, 2, 0, 1);
        Check.same("a byte is 255", 255, x.look(0, 1));
        Check.same("a byte is 0", 0, x.look(0, 2));
        Check.same("the byte behind it stays", 255, x.look(0, 3));
    }

    /** "come into register 0, 1 or 2 (...) IllegalArgumentException: (...) register is not so". */
    private static void putTakesThreeRegisters() {
        CurveSuite x = new CurveSuite();
        x.hash(true, 114);
        byte[] out = Check.out(x);
        for (int r : Check.outside(0, 2)) {
            Check.illegal("put into register " + r, () -> x.put(r, 0, -1, 8));
        }
        Check.same("OUT takes no put", out, Check.out(x));
        for (int r = 0; r < 3; r++) {
            Check.same("a refused put leaves register " + r, new byte[8], Check.register(x, r, 8));
        }
        for (int r = 0; r < 3; r++) {
            CurveSuite y = new CurveSuite();
            y.put(r, 0, 0xabL, 1);
            for (int other = 0; other < 3; other++) {
                Check.same("put into " + r + " seen in " + other, other == r ? 0xab : 0, y.look(other, 0));
            }
        }
    }

    /** "IndexOutOfBoundsException: not all of them have a place": the first place, the last and those beside them. */
    private static void putReachesBothEnds() {
        for (int r = 0; r < 3; r++) {
            for (int n = 1; n <= 8; n++) {
                putAtBothEnds(r, n);
            }
        }
    }

    private static void putAtBothEnds(int r, int n) {
        int room = ROOMS[r];
        CurveSuite x = new CurveSuite();
        x.put(r, 0, 0x1122334455667788L, n);
        x.put(r, room - n, 0x99aabbccddeeff11L, n);
        byte[] due = new byte[room];
        System.arraycopy(Check.bytes("1122334455667788"), 8 - n, due, 0, n);
        System.arraycopy(Check.bytes("99aabbccddeeff11"), 8 - n, due, room - n, n);
        for (int place : Check.outside(0, room - n)) {
            Check.outOfBounds("put of " + n + " at " + place, () -> x.put(r, place, 0, n));
        }
        for (int place : new int[] {room, -n, Integer.MAX_VALUE - n, Integer.MAX_VALUE - n + 1}) {
            Check.outOfBounds("put of " + n + " at " + place, () -> x.put(r, place, 0, n));
        }
        Check.same("put of " + n + " at both ends of " + r, due, Check.register(x, r, room));
    }

    /** "not all of them have a place (this last)". */
    private static void putLooksAtThePlaceLast() {
        CurveSuite x = new CurveSuite();
        for (int place : new int[] {-1, 57, 114, Integer.MIN_VALUE, Integer.MAX_VALUE}) {
            Check.illegal("no n, no place", () -> x.put(0, place, 0, 0));
            Check.illegal("no n, no place", () -> x.put(2, place, 0, 9));
            Check.illegal("no register, no place", () -> x.put(-1, place, 0, 1));
            Check.illegal("no register, no place", () -> x.put(3, place, 0, 8));
            Check.illegal("no register, no n, no place", () -> x.put(3, place, 0, 9));
            Check.illegal("no register, no n, no place", () -> x.put(-1, place, 0, 0));
        }
        Check.illegal("9 bytes, of which 8 have a place", () -> x.put(0, 49, 0, 9));
        Check.illegal("no byte, behind the last", () -> x.put(0, 57, 0, 0));
    }

    /** "IllegalArgumentException: n is not 1 .. 8". */
    private static void feedTakesOneToEightBytes() {
        for (boolean context : new boolean[] {false, true}) {
            CurveSuite x = new CurveSuite();
            for (int n : Check.outside(1, 8)) {
                Check.illegal("feed of " + n, () -> x.feed(context, -1, n));
            }
            Check.same("feed of 1 behind refused ones", 1, x.feed(context, -1, 1));
            Check.same("feed of 8", 9, x.feed(context, -1, 8));
        }
    }

    /** "n bytes likewise": the lowest n, the highest of these first. */
    private static void feedTakesTheLowestBytes() {
        byte[] whole = Check.bytes("80ff7f0001fe8100");
        for (int n = 1; n <= 8; n++) {
            CurveSuite x = new CurveSuite();
            Check.same("feed of " + n, n, x.feed(false, 0x80ff7f0001fe8100L, n));
            byte[] due = Arrays.copyOfRange(whole, 8 - n, 8);
            Check.same("MESSAGE of " + n, Reference.sha512(due), hashOfMessage(x));
            CurveSuite y = new CurveSuite();
            Check.same("feed of " + n, n, y.feed(true, 0x80ff7f0001fe8100L, n));
            Check.same("CONTEXT of " + n, dueInContext(due), signatureInContext(y));
        }
    }

    /** "MESSAGE has up to 256 bytes"; "IllegalStateException: there would be too many". */
    private static void feedFillsMessage() {
        for (int n = 1; n <= 8; n++) {
            int bytes = n;
            byte[] brim = pattern(MESSAGE_ROOM - n);
            CurveSuite x = fed(false, MESSAGE_ROOM - n);
            Check.same("feed up to 256", MESSAGE_ROOM, x.feed(false, 0, n));
            Check.same("256 bytes", Reference.sha512(Arrays.copyOf(brim, MESSAGE_ROOM)), hashOfMessage(x));
            for (int more = 1; more <= 8; more++) {
                int beyond = more;
                Check.wrongState("feed into a full MESSAGE", () -> x.feed(false, -1, beyond));
            }
            Check.same("still 256 bytes", Reference.sha512(Arrays.copyOf(brim, MESSAGE_ROOM)), hashOfMessage(x));
            CurveSuite y = fed(false, MESSAGE_ROOM - n + 1);
            Check.wrongState("feed up to 257", () -> y.feed(false, -1, bytes));
            Check.same("nothing of it came", Reference.sha512(pattern(MESSAGE_ROOM - n + 1)), hashOfMessage(y));
            if (n > 1) {
                Check.same("what still fits", MESSAGE_ROOM, y.feed(false, 0, n - 1));
            }
        }
    }

    /** "CONTEXT up to 64"; "IllegalStateException: there would be too many". */
    private static void feedFillsContext() {
        for (int n = 1; n <= 8; n++) {
            int bytes = n;
            byte[] due = dueInContext(Arrays.copyOf(pattern(CONTEXT_ROOM - n), CONTEXT_ROOM));
            CurveSuite x = fed(true, CONTEXT_ROOM - n);
            Check.same("feed up to 64", CONTEXT_ROOM, x.feed(true, 0, n));
            Check.same("64 bytes", due, signatureInContext(x));
            for (int more = 1; more <= 8; more++) {
                int beyond = more;
                Check.wrongState("feed into a full CONTEXT", () -> x.feed(true, -1, beyond));
            }
            Check.same("still 64 bytes", due, signatureInContext(x));
            CurveSuite y = fed(true, CONTEXT_ROOM - n + 1);
            Check.wrongState("feed up to 65", () -> y.feed(true, -1, bytes));
            Check.same("nothing of it came", dueInContext(pattern(CONTEXT_ROOM - n + 1)), signatureInContext(y));
            if (n > 1) {
                Check.same("what still fits", CONTEXT_ROOM, y.feed(true, 0, n - 1));
            }
        }
    }

    /** A wrong n is no number of bytes that could be too many: IllegalArgumentException, full or not. */
    private static void feedRefusesByteCountsFirst() {
        for (boolean context : new boolean[] {false, true}) {
            int room = context ? CONTEXT_ROOM : MESSAGE_ROOM;
            for (int free : new int[] {0, 1, 8}) {
                CurveSuite x = fed(context, room - free);
                for (int n : Check.outside(1, 8)) {
                    Check.illegal("feed of " + n + " with room for " + free, () -> x.feed(context, -1, n));
                }
                if (free > 0) {
                    Check.same("feed of what fits", room, x.feed(context, -1, free));
                }
            }
        }
    }

    /** "is empty again": nothing to clear. */
    private static void clearOfEmpty() {
        for (boolean context : new boolean[] {false, true}) {
            CurveSuite x = new CurveSuite();
            x.clear(context);
            x.clear(context);
            Check.same("feed after clear of empty", 8, x.feed(context, 0, 8));
        }
    }

    /** "is empty again": and can be filled to the brim once more, with none of the old bytes. */
    private static void clearOfFull() {
        CurveSuite x = fed(false, MESSAGE_ROOM);
        x.clear(false);
        Check.same("MESSAGE is empty", Reference.sha512(new byte[0]), hashOfMessage(x));
        Check.same("feed after clear", 1, x.feed(false, 7, 1));
        Check.same("MESSAGE has one byte", Reference.sha512(new byte[] {7}), hashOfMessage(x));
        Check.feed(x, false, new byte[MESSAGE_ROOM - 1]);
        byte[] due = new byte[MESSAGE_ROOM];
        due[0] = 7;
        Check.same("MESSAGE is full", Reference.sha512(due), hashOfMessage(x));
        Check.wrongState("MESSAGE is full", () -> x.feed(false, 0, 1));

        CurveSuite y = fed(true, CONTEXT_ROOM);
        y.clear(true);
        Check.same("CONTEXT is empty", dueInContext(new byte[0]), signatureInContext(y));
        Check.same("feed after clear", 1, y.feed(true, 7, 1));
        Check.same("CONTEXT has one byte", dueInContext(new byte[] {7}), signatureInContext(y));
        Check.feed(y, true, new byte[CONTEXT_ROOM - 1]);
        Check.same("CONTEXT is full", dueInContext(Arrays.copyOf(due, CONTEXT_ROOM)), signatureInContext(y));
        Check.wrongState("CONTEXT is full", () -> y.feed(true, 0, 1));
    }

    /** "MESSAGE (false) or CONTEXT (true)". */
    private static void clearOfOneLeavesTheOther() {
        for (boolean cleared : new boolean[] {false, true}) {
            CurveSuite x = fed(false, MESSAGE_ROOM);
            Check.feed(x, true, pattern(CONTEXT_ROOM));
            x.clear(cleared);
            Check.wrongState("the other is still full", () -> x.feed(!cleared, 0, 1));
            byte[] message = cleared ? pattern(MESSAGE_ROOM) : new byte[0];
            byte[] context = cleared ? new byte[0] : pattern(CONTEXT_ROOM);
            x.sign(0, false);
            Check.same("what is signed", new Reference(0).sign(new byte[32], message, context, false), Check.out(x));
        }
    }

    /** "as many as it has places" of an OUT without any: "the others stay: how many came". */
    private static void moveOfEmptyOut() {
        for (int r = 0; r < 3; r++) {
            byte[] full = Check.filled(ROOMS[r], 0xa5);
            CurveSuite x = new CurveSuite();
            Check.load(x, r, full);
            Check.same("move of OUT at first", 0, x.move(r));
            x.hash(false, 0);
            x.hash(true, 0);
            Check.same("move of no bytes of SHAKE256", 0, x.move(r));
            x.hash(false, 0);
            x.verify(0, false);
            Check.same("move after verify", 0, x.move(r));
            Check.same("the register stays", full, Check.register(x, r, ROOMS[r]));
        }
    }

    /** "OUT's bytes come into register 0, 1 or 2, from its beginning on (as many as it has places); the others stay". */
    private static void moveOfShorterEqualAndLongerOut() {
        for (int r = 0; r < 3; r++) {
            for (int n = 0; n <= 114; n++) {
                CurveSuite x = new CurveSuite();
                byte[] due = Check.filled(ROOMS[r], 0xa5);
                Check.load(x, r, due);
                x.hash(true, n);
                byte[] out = Check.out(x);
                int came = Math.min(n, ROOMS[r]);
                System.arraycopy(out, 0, due, 0, came);
                Check.same("move of " + n + " to " + r, came, x.move(r));
                Check.same("what came of " + n + " to " + r, due, Check.register(x, r, ROOMS[r]));
            }
        }
    }

    /** "the others leave it": move gives nothing to OUT, and takes nothing from it. */
    private static void moveLeavesOut() {
        for (int n : new int[] {1, 56, 57, 58, 113, 114}) {
            CurveSuite x = new CurveSuite();
            x.hash(true, n);
            byte[] out = Check.out(x);
            Check.same("move to SECRET", Math.min(n, 57), x.move(Check.SECRET));
            Check.same("move to PUBLIC as well", Math.min(n, 57), x.move(Check.PUBLIC));
            Check.same("move to SIGNATURE as well", n, x.move(Check.SIGNATURE));
            Check.same("OUT stays", out, Check.out(x));
            x.put(Check.SIGNATURE, 0, x.look(Check.OUT, 0) ^ 255, 1);
            Check.same("a put behind it leaves OUT", out[0] & 255, x.look(Check.OUT, 0));
        }
    }

    /** "IllegalArgumentException: no such register": OUT is none that move takes. */
    private static void moveTakesThreeRegisters() {
        CurveSuite x = new CurveSuite();
        x.hash(false, 0);
        byte[] out = Check.out(x);
        for (int r : Check.outside(0, 2)) {
            Check.illegal("move to " + r, () -> x.move(r));
        }
        Check.same("a refused move leaves OUT", out, Check.out(x));
        for (int r = 0; r < 3; r++) {
            Check.same("a refused move leaves register " + r, new byte[57], Check.register(x, r, 57));
        }
        CurveSuite y = new CurveSuite();
        for (int r : Check.outside(0, 2)) {
            Check.illegal("move of nothing to " + r, () -> y.move(r));
        }
    }

    /** "A byte of a register (0 .. 3). IllegalArgumentException: no such register". */
    private static void lookTakesFourRegisters() {
        CurveSuite x = new CurveSuite();
        x.hash(false, 0);
        for (int r : Check.outside(0, 3)) {
            Check.illegal("look into " + r, () -> x.look(r, 0));
        }
        Check.same("look into SECRET", 0, x.look(0, 0));
        Check.same("look into PUBLIC", 0, x.look(1, 0));
        Check.same("look into SIGNATURE", 0, x.look(2, 0));
        Check.same("look into OUT", 0xcf, x.look(3, 0));
    }

    /** "IndexOutOfBoundsException: there is no such byte", of the registers with a fixed room. */
    private static void lookReachesBothEnds() {
        CurveSuite x = new CurveSuite();
        for (int r = 0; r < 3; r++) {
            int register = r;
            x.put(r, 0, 0x11 + r, 1);
            x.put(r, ROOMS[r] - 1, 0xee + r, 1);
            Check.same("the first byte of " + r, 0x11 + r, x.look(r, 0));
            Check.same("the last byte of " + r, 0xee + r, x.look(r, ROOMS[r] - 1));
            for (int k : Check.outside(0, ROOMS[r] - 1)) {
                Check.outOfBounds("look at " + k + " of " + r, () -> x.look(register, k));
            }
        }
    }

    /** "IndexOutOfBoundsException: there is no such byte", of OUT, whatever stood there before. */
    private static void lookEndsWithOut() {
        CurveSuite x = new CurveSuite();
        for (int n : new int[] {114, 113, 64, 57, 2, 1, 0, 1, 114}) {
            x.hash(true, n);
            if (n > 0) {
                Check.same("the first byte of " + n, 0x46, x.look(Check.OUT, 0));
                Check.same("the last byte of " + n, true, x.look(Check.OUT, n - 1) >= 0);
            }
            for (int k : Check.outside(0, n - 1)) {
                Check.outOfBounds("look at " + k + " of " + n, () -> x.look(Check.OUT, k));
            }
        }
        x.verify(0, false);
        Check.outOfBounds("look after verify", () -> x.look(Check.OUT, 0));
    }

    /** Where there is no register there is no byte of it to miss. */
    private static void lookRefusesRegistersFirst() {
        CurveSuite x = new CurveSuite();
        for (int k : new int[] {-1, 57, 114, Integer.MIN_VALUE, Integer.MAX_VALUE}) {
            Check.illegal("no register, no byte", () -> x.look(-1, k));
            Check.illegal("no register, no byte", () -> x.look(4, k));
        }
    }

    /** "what the latest of those calls below gave of which OUT is told (empty (...) when such a call gives nothing". */
    private static void sizeIsThatOfTheLatest() {
        CurveSuite x = new CurveSuite();
        Check.same("at first", 0, x.size());
        x.hash(false, 0);
        Check.same("SHA-512", 64, x.size());
        for (int n : new int[] {1, 113, 114, 0}) {
            x.hash(true, n);
            Check.same("SHAKE256", n, x.size());
        }
        for (int curve = 0; curve < 2; curve++) {
            x.sign(curve, false);
            Check.same("sign", curve == 0 ? 64 : 114, x.size());
            x.derive(curve);
            Check.same("derive", curve == 0 ? 32 : 57, x.size());
            x.agree(curve, true);
            Check.same("agree", curve == 0 ? 32 : 56, x.size());
            Check.same("zeros are a code", true, x.point(curve, 0));
            x.code(0);
            Check.same("code", curve == 0 ? 32 : 57, x.size());
            x.agree(curve, false);
            Check.same("an agreement of zeros", curve == 0 ? 32 : 56, x.size());
            x.verify(curve, false);
            Check.same("verify", 0, x.size());
        }
    }

    /** "the others leave it". */
    private static void sizeIsLeftByOtherCalls() {
        CurveSuite x = new CurveSuite();
        x.hash(true, 99);
        byte[] out = Check.out(x);
        x.put(0, 0, -1, 8);
        Check.same("put", 99, x.size());
        x.feed(false, 1, 1);
        x.feed(true, 1, 1);
        Check.same("feed", 99, x.size());
        x.clear(false);
        x.clear(true);
        Check.same("clear", 99, x.size());
        x.move(0);
        Check.same("move", 99, x.size());
        x.look(3, 98);
        Check.same("look", 99, x.size());
        x.point(1, 0);
        x.put(1, 0, -1, 8);
        x.put(1, 56, -1, 1);
        Check.same("no code", false, x.point(1, 0));
        Check.same("point", 99, x.size());
        x.add(1, 0, 0, false);
        Check.same("add", 99, x.size());
        x.times(2, 1);
        Check.same("times", 99, x.size());
        x.same(0, 1);
        Check.same("same", 99, x.size());
        x.order(0, 1);
        Check.same("order", 99, x.size());
        Check.same("OUT is as it was", out, Check.out(x));
    }
}
