import java.util.function.Supplier;

/** All that an object's calls can show of it, part by part. */
final class State {
    static final String[] PARTS = {
        "SECRET", "PUBLIC", "SIGNATURE", "OUT", "MESSAGE", "CONTEXT", "place 0", "place 1", "place 2",
    };

    private State() {
    }

    /** Each part is seen on an object of its own, as seeing some of them changes others. */
    static String[] of(Supplier<CurveSuite> make) {
        String[] seen = new String[PARTS.length];
        for (int part = 0; part < PARTS.length; part++) {
            seen[part] = see(make.get(), part);
        }
        return seen;
    }

    private static String see(CurveSuite x, int part) {
        if (part <= Check.SIGNATURE) {
            return Check.hex(Check.register(x, part, part == Check.SIGNATURE ? 114 : 57));
        }
        if (part == Check.OUT) {
            return Check.hex(Check.out(x));
        }
        if (part == 4) {
            x.hash(false, 0);
            return Check.hex(Check.out(x)) + " " + countAfterOneMore(x, false);
        }
        if (part == 5) {
            return context(x);
        }
        return x.order(part - 6, 2) + " " + Check.hex(Check.code(x, part - 6));
    }

    private static String context(CurveSuite x) {
        x.clear(false);
        Check.load(x, Check.SECRET, new byte[57]);
        x.sign(0, true);
        return Check.hex(Check.out(x)) + " " + countAfterOneMore(x, true);
    }

    private static String countAfterOneMore(CurveSuite x, boolean context) {
        try {
            return Integer.toString(x.feed(context, 0, 1));
        } catch (IllegalStateException e) {
            return "full";
        }
    }
}
