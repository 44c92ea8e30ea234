import com.sun.management.ThreadMXBean;
import java.lang.management.ManagementFactory;

/** What a run of 512 calls makes stays far below the room that all calls of a run share. */
public final class RoomTest {
    private static final int CALLS = 512;
    // The room has 7.3 million fields and elements; a tenth of it, at four bytes each.
    private static final long MOST_BYTES = 730000L * 4;

    private final ThreadMXBean threads = (ThreadMXBean) ManagementFactory.getThreadMXBean();
    private final Checks checks = new Checks();

    public static void main(String[] args) {
        RoomTest test = new RoomTest();
        test.measure(true);
        test.measure(false);
        test.checks.end("RoomTest");
    }

    private long made() {
        return threads.getThreadAllocatedBytes(Thread.currentThread().getId());
    }

    /** The first time, classes are loaded too: that isn't counted. */
    private void measure(boolean first) {
        for (int which = 0; which < 20; which++) {
            long before = made();
            GuardRolls x = full();
            for (int i = x.count(4); i < CALLS - 100; i++) {
                ask(x, which, i);
            }
            long bytes = made() - before;
            if (!first && bytes > MOST_BYTES) {
                checks.fail("calls of sort " + which + " make " + bytes + " bytes;");
            }
            checks.due("made something", bytes > 0, true);
        }
    }

    private GuardRolls full() {
        GuardRolls x = new GuardRolls();
        for (int g = 0; g < 3; g++) {
            x.guardian(g);
        }
        for (int w = 0; w < 4; w++) {
            x.ward(w - 7000, w % 3);
        }
        for (int i = 0; i < 39; i++) {
            x.pay(i % 4, i * 90, 100 + i, i % 4, i / 2);
        }
        for (int i = 0; i < 12; i++) {
            x.order(i % 4, i % 2, 0, 3599, 500);
        }
        return x;
    }

    private void ask(GuardRolls x, int which, int i) {
        switch (which) {
            case 0: x.written(i % 60); break;
            case 1: x.ranked(3599, i % 3); break;
            case 2: x.most(3599, i % 3); break;
            case 3: x.bestDay(i % 4, i % 10, 500, 1); break;
            case 4: x.liable(i % 3, 1); break;
            case 5: x.close(i % 4); break;
            case 6: x.image(); break;
            case 7: x.back(); break;
            case 8: x.undo(); break;
            case 9: x.rules(); break;
            case 10: x.fault(); break;
            case 11: x.feed(i, i, i, i, i); break;
            case 12: x.dispute(i % 9); break;
            case 13: x.missing(i % 9); break;
            case 14: x.needed(i % 4, i); break;
            case 15: x.extreme(i % 4, i % 10, i % 4); break;
            case 16: x.month(i % 4, i % 120, 2); break;
            case 17: x.receive(0, i, 5, 0); break;
            case 18: x.lasts(i % 4, i); break;
            default: x.again(i % 9); break;
        }
    }
}
