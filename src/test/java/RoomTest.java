import java.lang.management.ManagementFactory;

/** What a run makes stays small, however dear its calls are, and 512 of the dearest calls end. */
public final class RoomTest {
    private static final long MOST_BYTES = 2000000;

    public static void main(String[] args) {
        com.sun.management.ThreadMXBean threads = (com.sun.management.ThreadMXBean) ManagementFactory.getThreadMXBean();
        long self = Thread.currentThread().getId();
        WordsAndRows x = Dense.house("p", "q", "r", "u", "v", "w");
        Check.due("30 rows", x.count(1), 30);
        Check.due("each with all 24 of other tables", x.count(9), 30 * 24 / 2);
        x.width(5);
        long[] ask = Feeder.pack("p q r u", 0);
        long before = threads.getThreadAllocatedBytes(self);
        long sum = 0;
        for (int i = 0; i < 85; i++) {
            x.feed(ask[0], ask[1], ask[2]);
            x.ask();
            sum += x.count(4);
            sum += x.parts(0);
            sum += x.looks(1000000, 2);
            x.hide(0, i % 30, true);
            sum += x.left();
            x.hide(0, i % 30, false);
        }
        long made = threads.getThreadAllocatedBytes(self) - before;
        Check.due("the sets looked at at the end", x.looks(1000000, 2), 174156);
        System.out.println(made + " bytes made (" + sum + ")");
        Check.due("bytes made are less than " + MOST_BYTES, made < MOST_BYTES, true);
        Check.end();
    }
}
