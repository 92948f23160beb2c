import com.sun.management.ThreadMXBean;
import java.lang.management.ManagementFactory;

/** The room: an object makes its rows in the constructor, and the calls make none but the exceptions they throw. */
final class RoomTests {
    private static final int CALLS = 448;
    /** About 30,000 fields and elements of at most 8 bytes, and 2,200 heads. */
    private static final long BYTES_OF_AN_OBJECT = 400_000;
    private static final String TEXT = "zone 0 summer 5 200;zone 60;"
        + "event 0 0 1440 0 every 1 days times 30 not 3 move 4 5 6;".repeat(8);

    private final Checks checks = new Checks();
    private final ThreadMXBean meter = (ThreadMXBean) ManagementFactory.getThreadMXBean();

    public static void main(String[] args) {
        RoomTests tests = new RoomTests();
        tests.makes();
        tests.checks.end();
    }

    private void makes() {
        run(new CalendarSync());
        long before = made();
        CalendarSync x = new CalendarSync();
        long behind = made();
        checks.holds("an object makes " + (behind - before), behind - before < BYTES_OF_AN_OBJECT);
        Feeding.feedText(x, TEXT);
        x.load(TEXT.length());
        before = made();
        run(x);
        behind = made();
        checks.holds("the calls make " + (behind - before), behind - before < 2_000);
    }

    private long made() {
        return meter.getThreadAllocatedBytes(Thread.currentThread().getId());
    }

    private static void run(CalendarSync x) {
        if (x.events(2) == 0) {
            Feeding.feedText(x, TEXT);
            x.load(TEXT.length());
        }
        for (int k = 0; k < CALLS / 16; k++) {
            x.cancel(0, 1, 2);
            x.move(1, 2, 3, k, k);
            x.reply(1, 3, 4, 2);
            x.repeat(0, 5, 2, 1, 127, 30);
            x.sync(0);
            x.sync(1);
            x.setZone(1, k, k, k);
            x.undo();
            x.keep(k & 1);
            x.agenda(2, 0, 100000);
            x.agendaAt(2, 0, 5, 2);
            x.clashes(2);
            x.busyBits(1, 0, 100000);
            x.isSame(1);
            x.day(k, 1);
            x.restore(k & 1);
        }
    }
}
