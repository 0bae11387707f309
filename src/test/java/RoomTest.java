import com.sun.management.ThreadMXBean;
import java.lang.management.ManagementFactory;

/**
 * The room that all calls of one run share: 600,000 objects, 7,300,000 fields and elements. An object takes at least
 * sixteen bytes and an element at least one, so a run that takes less than 7,300,000 bytes stays within both. What the
 * tests themselves make is counted too.
 */
public final class RoomTest {
    private static final long ROOM = 7300000;
    private static final int CALLS = 512;
    private static final String TEXT = "spool grace 0 round 1;class a days 9;user u class a quota 99999;user v class a quota 9999;"
            + "group g u,v;hold h user u;hold i user v word tax;";
    private static final String FOUR_PARTS = Check.repeat("w", 200) + "|" + Check.repeat("x", 200) + "|"
            + Check.repeat("y", 200) + "|" + Check.repeat("z", 200);
    private static final ThreadMXBean THREADS = (ThreadMXBean) ManagementFactory.getThreadMXBean();

    private interface Step {
        void run(MailSpool spool);
    }

    public static void main(String[] args) {
        within("load()", x -> x.load());
        within("refused deliver()", x -> Check.refused("13", IllegalArgumentException.class, () -> x.deliver(0, 0, -1)));
        within("deliver() and undo()", x -> {
            Check.fill(x, FOUR_PARTS);
            x.deliver(0, 1, -1);
            x.undo();
        });
        within("advance() and undo()", x -> {
            x.advance(1000);
            x.undo();
        });
        within("predictions", x -> {
            x.bytesAfter(2000);
            x.goneAfter(0, 2000);
            x.removedOn(0);
            x.emptyOn();
        });
        within("answers on users", x -> {
            x.fairShare(0);
            x.commonBytes(0, 1);
            x.writeMailbox(0);
            x.heldOnlyBy(0);
        });
        Check.end();
    }

    private static void within(String what, Step step) {
        repeat(step);
        long before = taken();
        repeat(step);
        long bytes = taken() - before;
        Check.due(CALLS + " times " + what + " take " + bytes + " bytes; less than the room", bytes > 0 && bytes < ROOM, true);
    }

    private static long taken() {
        return THREADS.getThreadAllocatedBytes(Thread.currentThread().getId());
    }

    private static void repeat(Step step) {
        MailSpool x = Check.loaded(TEXT);
        Check.deliver(x, 0, 3, -1, "tax|hello");
        for (int i = 0; i < CALLS; i++) {
            step.run(x);
        }
    }
}
