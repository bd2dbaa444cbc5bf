import com.sun.management.ThreadMXBean;
import java.lang.management.ManagementFactory;

/** Rule 12: what calls make is small. A run of the dearest calls makes nothing, and a new object is no great thing. */
public final class RoomTest {
    private static final Check CHECK = new Check("RoomTest");
    private static final ThreadMXBean THREADS = (ThreadMXBean) ManagementFactory.getThreadMXBean();

    public static void main(String[] args) {
        long id = Thread.currentThread().getId();
        dearCalls(new TwoFliers());
        TwoFliers x = new TwoFliers();
        THREADS.getThreadAllocatedBytes(id);
        long before = THREADS.getThreadAllocatedBytes(id);
        dearCalls(x);
        long made = THREADS.getThreadAllocatedBytes(id) - before;
        CHECK.due("bytes made by calls, at most 4096: " + made, made <= 4096 ? 1 : 0, 1);
        before = THREADS.getThreadAllocatedBytes(id);
        TwoFliers y = new TwoFliers();
        made = THREADS.getThreadAllocatedBytes(id) - before;
        CHECK.due("bytes made by a new object, at most 16384: " + made, made <= 16384 ? 1 : 0, 1);
        CHECK.due("the new object", y.count(2), 0);
        CHECK.end();
    }

    private static void dearCalls(TwoFliers x) {
        x.row(0, 6);
        x.flight(66, 0);
        x.text(0, 3);
        x.put(0, 0, 'a');
        x.put(0, 1, '=');
        x.put(0, 2, '5');
        for (int e = 0; e < 6; e++) {
            x.sign(e + 2, e, e, 0);
        }
        for (int n = 0; n < 32; n++) {
            x.story(1 + n % 3, 0);
            x.where(0, n);
            x.most(n % 4);
            x.sure(0, 1, 99);
            x.hour(3, n);
            x.ended(3);
            x.turns(0);
            x.falls(0, 0, n);
            x.likelier(0, 1);
            x.drag(n % 4, n, 4, 1);
            x.brought(n, 0);
            x.draw(n + 1, 2);
            x.image(3);
            x.on(3);
            x.digest();
        }
    }
}
