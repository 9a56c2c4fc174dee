import java.lang.management.ManagementFactory;

/** What a run of 512 calls makes stays below the room of 7.3 million fields and elements, of four bytes each. */
public final class RoomTest {
    private static final long MOST_BYTES = 29_000_000;

    public static void main(String[] args) {
        Check check = new Check();
        if (!(ManagementFactory.getThreadMXBean() instanceof com.sun.management.ThreadMXBean)) {
            System.out.println("this machine does not count what is made");
            return;
        }
        for (int round = 0; round < 2; round++) {
            long before = made();
            submits();
            check.due("much made by submits", Math.max(MOST_BYTES, made() - before), MOST_BYTES);
            before = made();
            forecasts();
            check.due("much made by forecasts", Math.max(MOST_BYTES, made() - before), MOST_BYTES);
        }
        check.end();
    }

    private static long made() {
        com.sun.management.ThreadMXBean bean = (com.sun.management.ThreadMXBean) ManagementFactory.getThreadMXBean();
        return bean.getThreadAllocatedBytes(Thread.currentThread().getId());
    }

    /** The dearest call: a list of 400 pages is submitted, and everything restored, again and again. */
    private static void submits() {
        PrintSpooler x = new PrintSpooler();
        x.addDocument(400, 0, 1, 0, 1);
        x.say('*');
        x.save(0);
        for (int i = 0; i < 254; i++) {
            x.submit(0);
            x.restore(0);
        }
    }

    private static void forecasts() {
        PrintSpooler x = Make.printing("*");
        x.fill(0, 0, 400);
        x.set(PrintSpooler.COPIES, 10);
        for (int job = 1; job < 24; job++) {
            Check.submit(x, 0, "*");
        }
        for (int i = 0; i < 130; i++) {
            x.urgency(23, 1000);
            x.save(i % 2);
            x.canonical(3, 0);
        }
    }
}
