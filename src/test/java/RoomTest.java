import com.sun.management.ThreadMXBean;
import java.lang.management.ManagementFactory;

/** All calls of a run share one room, so calls make no objects: rows are made once, by the constructor. */
final class RoomTest {
    private static final long SMALL = 16 * 1024;

    private RoomTest() {
    }

    public static void main(String[] args) {
        run(new TwoLives());
        TwoLives x = new TwoLives();
        ThreadMXBean threads = (ThreadMXBean) ManagementFactory.getThreadMXBean();
        long self = Thread.currentThread().getId();
        threads.getThreadAllocatedBytes(self);
        long before = threads.getThreadAllocatedBytes(self);
        int calls = run(x);
        long made = threads.getThreadAllocatedBytes(self) - before;
        System.out.println(calls + " calls made objects of " + made + " bytes");
        Check.due("objects are few", 1, made < SMALL ? 1 : 0);
        Check.end();
    }

    private static int run(TwoLives x) {
        x.setUp(16, 1);
        int calls = 1;
        for (int i = 0; i < 36; i++) {
            x.result(x.open(0), i % 2);
            x.withdraw(i % 16);
            x.forecast();
            x.upsets(i % 16);
            x.sessions(1);
            x.meet(i % 16, 3);
            x.save(i % 2);
            x.undo();
            x.restore(i % 2);
            x.put(0x30612C3161L);
            x.fault();
            x.carryOut();
            x.count(11);
            calls += 14;
        }
        return calls;
    }
}
