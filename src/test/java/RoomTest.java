import java.lang.management.ManagementFactory;

/** What an object and 512 of the dearest calls make stays far below the room that a run has. */
public final class RoomTest {
    private static final long OBJECT_MOST = 600_000;
    private static final long CALLS_MOST = 200_000;

    public static void main(String[] args) {
        com.sun.management.ThreadMXBean beans = (com.sun.management.ThreadMXBean) ManagementFactory.getThreadMXBean();
        for (int round = 0; round < 3; round++) {
            long start = beans.getCurrentThreadAllocatedBytes();
            OrderedWorks x = new OrderedWorks(2, 0);
            long made = beans.getCurrentThreadAllocatedBytes();
            calls(x);
            long end = beans.getCurrentThreadAllocatedBytes();
            if (round == 2) {
                System.out.println("a new object " + (made - start) + " bytes, 512 calls " + (end - made));
                Check.yes("a new object", made - start < OBJECT_MOST);
                Check.yes("512 calls", end - made < CALLS_MOST);
            }
        }
        Check.end();
    }

    private static void calls(OrderedWorks x) {
        for (int i = 0; i < 64; i++) {
            if (x.client(i & 3, 1) != 1) {
                x.request(i & 3, 1, i & 7, i);
            } else {
                x.again(i & 3);
            }
            x.calm(20);
            x.tick(40);
            x.flow(40);
            x.wire(0);
            x.image(i % 7);
            x.take(0, 0);
            x.broken();
        }
    }
}
