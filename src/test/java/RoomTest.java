import com.sun.management.ThreadMXBean;
import java.lang.management.ManagementFactory;

/** What a run makes: rows in the constructor alone, and nothing in a call. */
public final class RoomTest {
    private static final Check check = new Check();
    private static final ThreadMXBean threads = (ThreadMXBean) ManagementFactory.getThreadMXBean();

    public static void main(String[] args) {
        // The first run warms up; what the machine makes for itself is not counted in the second.
        run();
        long before = threads.getCurrentThreadAllocatedBytes();
        HarpOrders x = new HarpOrders();
        long made = threads.getCurrentThreadAllocatedBytes() - before;
        check.holds("an object's rows take " + made + " bytes, 100000 at most", made <= 100000);
        made = run();
        check.holds("the calls of a run make " + made + " bytes, 2000 at most", made <= 2000);
        check.due("the object is new", x.count(18), 0);
        check.end();
    }

    private static long run() {
        HarpOrders x = new HarpOrders();
        x.set(7, 100);
        x.set(8, 100);
        long wants = Check.packed("a0:1,7:2");
        long before = threads.getCurrentThreadAllocatedBytes();
        for (int i = 0; i < 20; i++) {
            x.pay(0, 1000);
            x.snap(0, 0);
            x.want(i % 6, i % 8, 20);
            x.put(wants);
            x.fault();
            x.read();
            x.order(63, 0);
            x.share(63, 0);
            x.ifMore(0, 0, 1);
            x.bestParting(0);
            x.send(63);
            x.untilHome();
            x.pass(6);
            x.standIn(0, 0);
            x.fit(0, 0, 0);
            x.give(0, 1, 0, 1);
            x.shuffle(i);
            x.member(0, 4);
            x.parcel(0, 0);
            x.count(10);
            x.strings(0, 0, true);
            x.save(0);
            x.restore(0);
            x.undo();
            x.wipe();
        }
        return threads.getCurrentThreadAllocatedBytes() - before;
    }
}
