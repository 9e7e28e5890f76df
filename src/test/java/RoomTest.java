import com.sun.management.ThreadMXBean;
import java.lang.management.ManagementFactory;

/** LANGUAGE.md 12: what a run makes is small: rows are made with the object and used again. */
public final class RoomTest {
    private static final int OBJECT_BYTES = 32768;
    private static final int RUN_BYTES = 1024;
    private static final ThreadMXBean threads = (ThreadMXBean) ManagementFactory.getThreadMXBean();
    private static final Due due = new Due("RoomTest");

    public static void main(String[] args) {
        // The first time classes are loaded too, which is not the program's room.
        calls(new WhoCalls());
        for (int run = 0; run < 20; run++) {
            long before = threads.getCurrentThreadAllocatedBytes();
            WhoCalls x = new WhoCalls();
            long made = threads.getCurrentThreadAllocatedBytes();
            calls(x);
            long after = threads.getCurrentThreadAllocatedBytes();
            due.holds("a new object makes " + (made - before) + " bytes", made - before <= OBJECT_BYTES);
            due.holds("its calls make " + (after - made) + " bytes", after - made <= RUN_BYTES);
        }
        due.end();
    }

    /** Some 380 calls of every kind, with texts, rules and marks as full as they go. */
    private static void calls(WhoCalls x) {
        for (int version = 0; version < 5; version++) {
            x.answer(version, version, version, version);
            x.version();
            x.days(5);
        }
        for (int i = 0; i < 13; i++) {
            x.call(i % 6, i % 8, 255);
            x.split(i % 6, 0, 0, 4, 255);
            x.wrap(i % 6, 1, 3, 255);
            x.rule(i % 8, 255, (i + 1) % 8, i % 8);
            x.count(i % 6, i % 8, i, 9, i);
            x.promise(i % 8, i % 6, 20 + i);
            x.shut(i % 8, 40 - i);
            x.goes(i % 6, i % 5);
            x.set(i % 3, i % 6, 100 * i % 1000);
        }
        for (int i = 0; i < 13; i++) {
            x.sees(i % 6, i % 3, i % 8);
            x.uses(i % 6, i % 8);
            x.shape(i % 6, i % 8);
            x.differ(i % 8, 0, i % 5);
            x.harm(i % 6, i % 8, i % 5);
            x.left(i % 6, i % 8, i % 5);
            x.holds(i, 0, 1);
            x.clash(0, i);
            x.sum(i % 6, i % 8, 0, 39);
            x.most(i % 8, 0, 39);
            x.silent(i % 6);
            x.about(i % 8, i % 4);
            x.harmed(i % 8, i);
            x.ready(i % 8);
            x.plan(i % 2);
            x.told(i % 5);
            x.open(i % 8);
            x.trace();
            x.clear(i % 6);
        }
    }
}
