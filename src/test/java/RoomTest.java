import com.sun.management.ThreadMXBean;
import java.lang.management.ManagementFactory;

/** All calls of a run live in one room: only a new object takes some of it, calls take none. */
public final class RoomTest {
    private static final int OBJECT_BYTES = 32_000;
    private static final ThreadMXBean ROOM = (ThreadMXBean) ManagementFactory.getThreadMXBean();
    private static int sum = 0;

    private RoomTest() {
    }

    public static void main(String[] args) {
        calls(new GroveMerge());
        long start = taken();
        long itself = taken() - start;
        GroveMerge g = new GroveMerge();
        long made = taken() - start - itself;
        calls(g);
        long called = taken() - start - made - itself * 2;
        System.out.println("a new object takes " + made + " bytes, its calls " + called + ", answers in all " + sum);
        Check.same("a new object is small", made < OBJECT_BYTES ? 1 : 0, 1);
        Check.same("calls take nothing", called < 1_000 ? 1 : 0, 1);
        Check.end();
    }

    private static long taken() {
        return ROOM.getThreadAllocatedBytes(Thread.currentThread().getId());
    }

    /** Under 512 calls, the dearest often. */
    private static void calls(GroveMerge g) {
        for (int i = 0; i < 23; i++) {
            sum += g.insert(i / 2, 0, i % 6);
        }
        for (int i = 0; i < 4; i++) {
            sum += g.commit();
            g.relabel(i, 5);
            g.move(20, i, 0);
            sum += g.commit() + g.merge(i) + g.state(2);
        }
        for (int i = 0; i < 40; i++) {
            sum += g.distance(i % 8, i % 7) + g.base(i % 8, i % 7) + g.above(i % 8, 1);
            sum += g.count(-1) + g.find(30, i % 20) + g.alike(i % 24) + g.about(i % 24, 3) + g.child(0, 0);
            g.checkout(1 + i % 8);
            sum += g.merge(1 + i % 7);
        }
        sum += g.delete(1) + g.nodes(false);
    }
}
