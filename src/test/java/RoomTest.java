import com.sun.management.ThreadMXBean;
import java.lang.management.ManagementFactory;
import java.util.Random;

/** A run's objects share one room: an object is small, and its calls make none. */
public final class RoomTest {
    private static final long MOST_FOR_AN_OBJECT = 100_000;
    private static final long MOST_FOR_CALLS = 1_000;

    public static void main(String[] args) {
        CurveSuite warm = new CurveSuite();
        useAll(warm);
        allocated();
        long before = allocated();
        CurveSuite x = new CurveSuite();
        long made = allocated();
        useAll(x);
        useAll(x);
        long used = allocated();
        Check.same("bytes of an object: " + (made - before), true, made - before <= MOST_FOR_AN_OBJECT);
        Check.same("bytes of all calls: " + (used - made), true, used - made <= MOST_FOR_CALLS);
        Check.finish();
    }

    private static long allocated() {
        ThreadMXBean threads = (ThreadMXBean) ManagementFactory.getThreadMXBean();
        return threads.getCurrentThreadAllocatedBytes();
    }

    private static void useAll(CurveSuite x) {
        Random random = new Random(300);
        for (int curve = 0; curve < 2; curve++) {
            x.put(0, 0, random.nextLong(), 8);
            x.clear(true);
            x.clear(false);
            x.feed(false, random.nextLong(), 8);
            x.feed(true, random.nextLong(), 8);
            x.hash(curve == 1, 114);
            x.agree(curve, true);
            x.move(1);
            x.agree(curve, false);
            x.derive(curve);
            x.move(1);
            for (int form = 0; form < 2; form++) {
                x.sign(curve, form == 1);
                x.move(2);
                x.look(2, 0);
                Check.same("verify", true, x.verify(curve, form == 1));
            }
            x.point(curve, 0);
            x.point(curve, 1);
            x.add(2, 0, 1, true);
            x.times(2, 0);
            x.code(2);
            x.same(1, 2);
            x.order(2, 1);
        }
    }
}
