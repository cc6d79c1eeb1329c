import com.sun.management.ThreadMXBean;
import java.lang.management.ManagementFactory;
import java.util.function.Supplier;

/** All calls of a run live in one room: a court is made once, and its dearest calls make next to nothing. */
final class RoomTest {
    private static final long MOST_BYTES_OF_A_COURT = 40_000;
    private static final long MOST_BYTES_OF_A_CALL = 200;
    private static final ThreadMXBean THREADS = (ThreadMXBean) ManagementFactory.getThreadMXBean();

    public static void main(String[] args) {
        fewBytes("new LanternCourt()", LanternCourt::new, MOST_BYTES_OF_A_COURT);
        LanternCourt court = Check.courtWith(8);
        for (int i = 0; i < 10; i++) {
            court.file(i % 8, 12, 1 + i, 9);
        }
        for (int i = 0; i < 12; i++) {
            court.makeStatement(i % 8, (i + 3) % 8, i % 2 == 0);
        }
        fewBytes("isConsistent()", court::isConsistent, MOST_BYTES_OF_A_CALL);
        fewBytes("passDays(9)", () -> court.passDays(9), MOST_BYTES_OF_A_CALL);
        fewBytes("undo()", court::undo, MOST_BYTES_OF_A_CALL);
        fewBytes("writePlan()", court::writePlan, MOST_BYTES_OF_A_CALL);
        fewBytes("writeLantern(0)", () -> court.writeLantern(0), MOST_BYTES_OF_A_CALL);
        fewBytes("save()", court::save, MOST_BYTES_OF_A_CALL);
        fewBytes("restore()", court::restore, MOST_BYTES_OF_A_CALL);
        fewBytes("runCommands()", () -> runCommands(court), MOST_BYTES_OF_A_CALL);
        Check.end();
    }

    private static int runCommands(LanternCourt court) {
        Check.feed(court, "wait 9;wait 9;wait 9;wait 9;wait 9;wait 9;wait 9;wait 9");
        return court.runCommands();
    }

    /** The least of several calls counts, for the first ones may load classes. */
    private static void fewBytes(String what, Supplier<Object> call, long most) {
        long least = Long.MAX_VALUE;
        for (int i = 0; i < 5; i++) {
            long before = THREADS.getThreadAllocatedBytes(Thread.currentThread().getId());
            call.get();
            least = Math.min(least, THREADS.getThreadAllocatedBytes(Thread.currentThread().getId()) - before);
        }
        Check.same(what + " makes few objects, " + least + " bytes", String.valueOf(least <= most), "true");
    }
}
