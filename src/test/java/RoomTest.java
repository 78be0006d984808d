import com.sun.management.ThreadMXBean;
import java.lang.management.ManagementFactory;

/** All calls of a run live in one room: the dearest calls, made 500 times, make no objects to speak of. */
public final class RoomTest {
    private static final int CALLS = 500;
    private static final long ROOM = 100000;

    public static void main(String[] args) {
        Due due = new Due("RoomTest");
        ThreadMXBean threads = (ThreadMXBean) ManagementFactory.getThreadMXBean();
        long self = Thread.currentThread().getId();
        HarvestPlans x = dearest();
        x.run(5000);
        long before = threads.getThreadAllocatedBytes(self);
        long answers = 0;
        for (int i = 0; i < CALLS; i++) {
            answers += x.run(5000) + x.nodes() + x.hope() + x.worth() + x.check() + x.sold(0) + x.move(0, 1);
        }
        long made = threads.getThreadAllocatedBytes(self) - before;
        due.is("bytes made are few: " + made, true, made < ROOM);
        due.is("calls were made", true, answers > 0);
        due.is("nodes", 5000, x.nodes());
        due.end();
    }

    /** All there may be, with so much room that next to nothing is cut off. */
    private static HarvestPlans dearest() {
        HarvestPlans x = new HarvestPlans(8);
        for (int i = 0; i < 4; i++) {
            x.place(100000000);
        }
        for (int i = 0; i < 3; i++) {
            x.boat(30);
        }
        for (int w = 0; w < 8; w++) {
            x.plant(w, 100000000);
        }
        for (int c = 0; c < 6; c++) {
            x.cage(c % 4);
            for (int w = 0; w < 8; w++) {
                x.size(c, w, 1000, 20 + c + w);
            }
        }
        for (int o = 0; o < 6; o++) {
            x.order(o, 0, 20000, 1, 10000 - o);
        }
        x.prices(1, 1);
        return x;
    }
}
