import java.util.ArrayList;
import java.util.Arrays;
import java.util.List;
import java.util.Random;
import java.util.function.Consumer;
import java.util.function.Supplier;

/** A refused call changes nothing, and any other call only what its promise says. */
public final class StateTest {
    private static final Reference[] REFERENCES = {new Reference(0), new Reference(1)};

    private record Refusal(String name, Class<? extends RuntimeException> due, Consumer<CurveSuite> call) {
    }

    public static void main(String[] args) {
        List<Supplier<CurveSuite>> states = List.of(CurveSuite::new, StateTest::busy, StateTest::full);
        for (Supplier<CurveSuite> state : states) {
            String[] before = State.of(state);
            for (Refusal refusal : alwaysRefused()) {
                checkRefusal(state, before, refusal);
            }
            checkChanges(state, before);
        }
        for (Refusal refusal : refusedWhenBusy()) {
            checkRefusal(StateTest::busy, State.of(StateTest::busy), refusal);
        }
        for (Refusal refusal : refusedWhenFull()) {
            checkRefusal(StateTest::full, State.of(StateTest::full), refusal);
        }
        Check.finish();
    }

    /** Something in every part, and points of both curves. */
    private static CurveSuite busy() {
        Random random = new Random(800);
        CurveSuite x = new CurveSuite();
        place(x, 0, 1);
        place(x, 1, 0);
        place(x, 2, 1);
        x.put(Check.SECRET, 0, 2, 1);
        x.times(2, 2);
        Check.load(x, Check.SECRET, Check.random(random, 57));
        Check.load(x, Check.SIGNATURE, Check.random(random, 114));
        Check.feed(x, false, Check.random(random, 13));
        Check.feed(x, true, Check.random(random, 5));
        x.hash(true, 77);
        return x;
    }

    private static CurveSuite full() {
        CurveSuite x = new CurveSuite();
        for (int r = 0; r < 3; r++) {
            Check.load(x, r, Check.filled(r == Check.SIGNATURE ? 114 : 57, 255));
        }
        Check.feed(x, false, Check.filled(256, 255));
        Check.feed(x, true, Check.filled(64, 255));
        x.hash(true, 114);
        return x;
    }

    private static void place(CurveSuite x, int place, int curve) {
        Check.load(x, Check.PUBLIC, REFERENCES[curve].encode(REFERENCES[curve].base));
        Check.same("point", true, x.point(curve, place));
    }

    private static void checkRefusal(Supplier<CurveSuite> state, String[] before, Refusal refusal) {
        String[] after = State.of(() -> {
            CurveSuite x = state.get();
            Check.fails(refusal.name, refusal.due, () -> refusal.call.accept(x));
            return x;
        });
        for (int part = 0; part < after.length; part++) {
            Check.same(refusal.name + " leaves " + State.PARTS[part], before[part].getBytes(), after[part].getBytes());
        }
    }

    private static void illegal(List<Refusal> all, String name, Consumer<CurveSuite> call) {
        all.add(new Refusal(name, IllegalArgumentException.class, call));
    }

    private static void outOfBounds(List<Refusal> all, String name, Consumer<CurveSuite> call) {
        all.add(new Refusal(name, IndexOutOfBoundsException.class, call));
    }

    private static void wrongState(List<Refusal> all, String name, Consumer<CurveSuite> call) {
        all.add(new Refusal(name, IllegalStateException.class, call));
    }

    private static List<Refusal> alwaysRefused() {
        List<Refusal> all = new ArrayList<>();
        illegal(all, "put of 0", x -> x.put(0, 0, 0x5a5a, 0));
        illegal(all, "put of 9", x -> x.put(1, 0, 0x5a5a, 9));
        illegal(all, "put into -1", x -> x.put(-1, 0, 0x5a5a, 2));
        illegal(all, "put into 3", x -> x.put(3, 0, 0x5a5a, 2));
        outOfBounds(all, "put at -1", x -> x.put(0, -1, 0x5a5a, 2));
        outOfBounds(all, "put at 56", x -> x.put(0, 56, 0x5a5a, 2));
        outOfBounds(all, "put at 57", x -> x.put(1, 57, 0x5a5a, 1));
        outOfBounds(all, "put at 107", x -> x.put(2, 107, 0x5a5a, 8));
        for (boolean context : new boolean[] {false, true}) {
            illegal(all, "feed of 0", x -> x.feed(context, 0x5a5a, 0));
            illegal(all, "feed of 9", x -> x.feed(context, 0x5a5a, 9));
            illegal(all, "feed of -1", x -> x.feed(context, 0x5a5a, -1));
        }
        illegal(all, "move to -1", x -> x.move(-1));
        illegal(all, "move to 3", x -> x.move(3));
        illegal(all, "look into -1", x -> x.look(-1, 0));
        illegal(all, "look into 4", x -> x.look(4, 0));
        outOfBounds(all, "look at -1", x -> x.look(0, -1));
        outOfBounds(all, "look at 57", x -> x.look(1, 57));
        outOfBounds(all, "look at 114", x -> x.look(2, 114));
        outOfBounds(all, "look behind OUT", x -> x.look(3, x.size()));
        illegal(all, "hash of -1", x -> x.hash(true, -1));
        illegal(all, "hash of 115", x -> x.hash(true, 115));
        for (int curve : new int[] {-1, 2}) {
            for (boolean flag : new boolean[] {false, true}) {
                illegal(all, "agree on " + curve, x -> x.agree(curve, flag));
                illegal(all, "sign on " + curve, x -> x.sign(curve, flag));
                illegal(all, "verify on " + curve, x -> x.verify(curve, flag));
            }
            illegal(all, "derive on " + curve, x -> x.derive(curve));
            illegal(all, "point on " + curve, x -> x.point(curve, 0));
        }
        for (int wrong : new int[] {-1, 3}) {
            illegal(all, "point to " + wrong, x -> x.point(0, wrong));
            illegal(all, "add to " + wrong, x -> x.add(wrong, 0, 0, false));
            illegal(all, "add of " + wrong, x -> x.add(0, wrong, 0, false));
            illegal(all, "add less " + wrong, x -> x.add(0, 0, wrong, true));
            illegal(all, "times to " + wrong, x -> x.times(wrong, 0));
            illegal(all, "times of " + wrong, x -> x.times(0, wrong));
            illegal(all, "code of " + wrong, x -> x.code(wrong));
            illegal(all, "same of " + wrong, x -> x.same(wrong, 0));
            illegal(all, "same with " + wrong, x -> x.same(0, wrong));
            illegal(all, "order at " + wrong, x -> x.order(wrong, 0));
            illegal(all, "order of what " + wrong, x -> x.order(0, wrong));
        }
        return all;
    }

    private static List<Refusal> refusedWhenBusy() {
        List<Refusal> all = new ArrayList<>();
        for (boolean less : new boolean[] {false, true}) {
            for (int to = 0; to < 3; to++) {
                int third = to;
                wrongState(all, "add of 0 and 1", x -> x.add(third, 0, 1, less));
                wrongState(all, "add of 1 and 2", x -> x.add(third, 1, 2, less));
            }
            illegal(all, "add of 0 and 1 to no place", x -> x.add(3, 0, 1, less));
        }
        outOfBounds(all, "look behind 77 bytes", x -> x.look(3, 77));
        return all;
    }

    private static List<Refusal> refusedWhenFull() {
        List<Refusal> all = new ArrayList<>();
        for (boolean context : new boolean[] {false, true}) {
            wrongState(all, "feed of 1", x -> x.feed(context, 0x5a5a, 1));
            wrongState(all, "feed of 8", x -> x.feed(context, 0x5a5a, 8));
        }
        outOfBounds(all, "look behind 114 bytes", x -> x.look(3, 114));
        return all;
    }

    /** Every call of the face, with the parts that its promise says it may change. */
    private static void checkChanges(Supplier<CurveSuite> state, String[] before) {
        checkChange("put into SECRET", state, before, x -> x.put(0, 0, 0x5a, 1), "SECRET");
        checkChange("put into PUBLIC", state, before, x -> x.put(1, 56, 0x5a, 1), "PUBLIC");
        checkChange("put into SIGNATURE", state, before, x -> x.put(2, 113, 0x5a, 1), "SIGNATURE");
        if (!before[4].endsWith("full")) {
            checkChange("feed of MESSAGE", state, before, x -> x.feed(false, 0x5a, 1), "MESSAGE");
            checkChange("feed of CONTEXT", state, before, x -> x.feed(true, 0x5a, 1), "CONTEXT");
        }
        checkChange("clear of MESSAGE", state, before, x -> x.clear(false), "MESSAGE");
        checkChange("clear of CONTEXT", state, before, x -> x.clear(true), "CONTEXT");
        checkChange("move to SECRET", state, before, x -> x.move(0), "SECRET");
        checkChange("move to PUBLIC", state, before, x -> x.move(1), "PUBLIC");
        checkChange("move to SIGNATURE", state, before, x -> x.move(2), "SIGNATURE");
        checkChange("look", state, before, x -> x.look(2, 113));
        checkChange("size", state, before, CurveSuite::size);
        checkChange("SHA-512", state, before, x -> x.hash(false, 0), "OUT");
        checkChange("SHAKE256", state, before, x -> x.hash(true, 114), "OUT");
        for (int c = 0; c < 2; c++) {
            int curve = c;
            for (boolean flag : new boolean[] {false, true}) {
                checkChange("agree", state, before, x -> x.agree(curve, flag), "OUT");
                checkChange("sign", state, before, x -> x.sign(curve, flag), "OUT");
                checkChange("verify", state, before, x -> x.verify(curve, flag), "OUT");
            }
            checkChange("derive", state, before, x -> x.derive(curve), "OUT");
        }
        for (int p = 0; p < 3; p++) {
            int place = p;
            String name = "place " + p;
            checkChange("point of curve 0", state, before, x -> x.point(0, place), name);
            checkChange("point of curve 1", state, before, x -> x.point(1, place), name);
            checkChange("add", state, before, x -> x.add(place, 2, 2, false), name);
            checkChange("add, less", state, before, x -> x.add(place, 0, 2, true), name);
            checkChange("times", state, before, x -> x.times(place, 1), name);
            checkChange("code", state, before, x -> x.code(place), "OUT");
            checkChange("same", state, before, x -> x.same(place, 2));
            for (int w = 0; w < 3; w++) {
                int what = w;
                checkChange("order", state, before, x -> x.order(place, what));
            }
        }
    }

    private static void checkChange(String name, Supplier<CurveSuite> state, String[] before,
            Consumer<CurveSuite> call, String... may) {
        String[] after = State.of(() -> {
            CurveSuite x = state.get();
            call.accept(x);
            return x;
        });
        for (int part = 0; part < after.length; part++) {
            if (!Arrays.asList(may).contains(State.PARTS[part])) {
                Check.same(name + " leaves " + State.PARTS[part], before[part].getBytes(), after[part].getBytes());
            }
        }
    }
}
