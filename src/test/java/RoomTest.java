import java.lang.management.ManagementFactory;

/** The room of a run: the calls make nothing, and an object is small. */
public final class RoomTest {
    private static final SlicedBills[] MADE = new SlicedBills[20];

    public static void main(String[] args) {
        Checks c = new Checks();
        com.sun.management.ThreadMXBean threads = (com.sun.management.ThreadMXBean) ManagementFactory.getThreadMXBean();
        long me = Thread.currentThread().getId();
        MADE[0] = new SlicedBills();
        run(MADE[0]);
        long start = threads.getThreadAllocatedBytes(me);
        for (int i = 0; i < MADE.length; i++) MADE[i] = new SlicedBills();
        long each = (threads.getThreadAllocatedBytes(me) - start) / MADE.length;
        c.due(each + " bytes an object are 80000 at most", each <= 80000, true);
        long begin = threads.getThreadAllocatedBytes(me);
        for (int i = 0; i < MADE.length; i++) run(MADE[i]);
        long made = threads.getThreadAllocatedBytes(me) - begin;
        c.due(made + " bytes in " + 20 * 500 + " calls are 100000 at most", made <= 100000, true);
        c.end();
    }

    private static void run(SlicedBills x) {
        // price A 99;tax 0 9
        x.feed(0x70726963, 0x65204120, 0x39393b74, 0x61782030, 0x20390000);
        x.book(18);
        x.begin(0, 0, 1);
        x.begin(1, 0, 31);
        for (int i = 0; i < 33; i++) {
            x.change(0, 1 - i % 2);
            x.days(3);
            x.quote(0, 2, x.count(1));
            x.best(0, 2, i % 3);
            x.when(0, 100000);
            x.ahead(0, 400);
            // days 1;use 0 5
            x.feed(0x64617973, 0x20313b75, 0x73652030, 0x20350000, 0);
            x.tried(14, 0);
            x.feed(0x64617973, 0x20313b75, 0x73652030, 0x20350000, 0);
            x.deeds(14);
            x.line(i, i);
            x.units(0, i);
            x.owes(0, 2);
            x.keep();
            x.undo();
        }
    }
}
