import com.sun.management.ThreadMXBean;
import java.lang.management.ManagementFactory;

/** What an object and its calls take of the room that all calls of a run share. */
public final class RoomTest {
    public static void main(String[] args) {
        Checks checks = new Checks("RoomTest");
        checks.part("room");
        ThreadMXBean bean = (ThreadMXBean) ManagementFactory.getThreadMXBean();
        long thread = Thread.currentThread().getId();
        callAll(new ThroughWindow());
        long start = bean.getThreadAllocatedBytes(thread);
        ThroughWindow x = new ThroughWindow();
        long made = bean.getThreadAllocatedBytes(thread) - start;
        checks.yes("an object takes " + made + " bytes, less than 64 KiB", made < 65536);
        tell(x);
        start = bean.getThreadAllocatedBytes(thread);
        for (int n = 0; n < 20; n++) {
            callAll(x);
        }
        long taken = bean.getThreadAllocatedBytes(thread) - start;
        checks.yes("500 calls take " + taken + " bytes, hardly any", taken < 20000);
        checks.end();
    }

    private static void tell(ThroughWindow x) {
        x.wall(0, 4);
        x.wall(1, 4);
        for (int key = 0; key < 10; key++) {
            x.row(0, key, key, 19 - key, key / 2);
            x.row(1, key, 9 - key, key / 3, key);
        }
        Hand.tell(x, 0, "over wall 0; join 1 by 1; cut 0 less 9; few 0 4 5 6;");
    }

    private static void callAll(ThroughWindow x) {
        x.seen(0, 0, 0);
        x.source(0, 0, 1, 1);
        x.look(0, 0);
        x.ways(0, 0, 0, 1, 3);
        x.ways(0, 0, 0, 1, 150);
        x.ways(0, 1, 0, 0, 0);
        x.ways(0, 2, 0, 0, 0);
        x.way(0, 0, 0, 1, 3, 0, 0);
        x.why(0, 0, 0, 1, 3);
        x.barred(0, 0, 0, 1, 3, 0);
        x.put(0, 0, 0, 1, 3);
        x.twice(0, 0, 1, 4, 5);
        x.back(0, 0, 1, 4);
        x.clash(0, 1, 4, 0, 9, 5);
        x.fits(0, 0);
        x.clerk(0, 0, 1, 4);
        x.clerk(1, 0, 9, 5);
        x.clerk(2, 0, 17, 6);
        x.night(0);
        x.carried(0, 0);
        x.cuts(0, 3, 0);
        x.moves(0, 1, 0, 3);
        x.mark(0, false);
        x.mark(0, true);
        x.feed(0x6f766572L, 0, 0);
        x.window(1);
        x.count(5);
    }
}
