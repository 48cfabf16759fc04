import com.sun.management.ThreadMXBean;
import java.lang.management.ManagementFactory;

/**
 * All calls of one run live in one room of some 600,000 objects and 7.3 million fields and elements. What a
 * run makes is counted here in bytes, with four to a field or element: 29 million are the whole room.
 */
public final class RoomTest {
    private static final long NEW_OBJECT = 200_000;
    private static final long DEAREST_RUN = 6_000_000;
    private static final int CALLS = 512;

    private static final ThreadMXBean THREADS = (ThreadMXBean) ManagementFactory.getThreadMXBean();
    private static int wrong = 0;
    private static int calls;

    public static void main(String[] args) {
        // The first measure also counts what the machine itself makes at its first use.
        allocated();
        long before = allocated();
        TreeVersions x = new TreeVersions();
        within("a new object", allocated() - before, NEW_OBJECT);
        within("a run of new tables", runOfNewTables(), DEAREST_RUN);
        within("a run of questions", runOfQuestions(), NEW_OBJECT);
        within("a run of merges", runOfMerges(), DEAREST_RUN);
        System.out.println(wrong == 0 ? "RoomTest: there is room enough" : "RoomTest: " + wrong + " wrong");
        System.exit(wrong == 0 && x.size(0) == 0 ? 0 : 1);
    }

    private static long allocated() {
        return THREADS.getThreadAllocatedBytes(Thread.currentThread().getId());
    }

    private static void within(String what, long bytes, long limit) {
        System.out.println("RoomTest: " + what + " makes " + bytes + " bytes");
        if (bytes > limit) {
            wrong++;
            System.out.println("RoomTest: " + what + " may make " + limit);
        }
    }

    /** Every commit has 600 rows that no other has: nothing can be kept in common. */
    private static long runOfNewTables() {
        long before = allocated();
        TreeVersions x = new TreeVersions();
        calls = 0;
        for (int c = 1; c < 60; c++) {
            for (int t = 0; t < 3; t++) {
                x.fill(t, 0, 2, 100, 7 * c + t);
                x.fill(t, 1, 2, 100, 1000 + 7 * c + t);
                calls += 2;
            }
            x.commit();
            calls++;
        }
        x.send(0);
        for (calls++; calls < CALLS; calls++) {
            x.stored();
        }
        return allocated() - before;
    }

    /** Nothing is committed, so nothing may be kept. */
    private static long runOfQuestions() {
        long before = allocated();
        TreeVersions x = new TreeVersions();
        x.fill(0, 0, 1, 100, 1);
        x.fill(0, 100, 1, 100, 1);
        for (calls = 2; calls + 9 <= CALLS; calls += 9) {
            x.put(0, calls % 200, calls, 0, 0);
            x.root(-1, 0);
            x.shared(-1, 0, 0);
            x.stored();
            x.diff(0, -1, 0);
            x.cell(0, calls % 200, 1, calls);
            x.node(-1, 0, 1, 0, 2);
            x.reset();
            x.fill(0, calls, 1, 100, calls);
        }
        return allocated() - before;
    }

    private static long runOfMerges() {
        long before = allocated();
        TreeVersions x = new TreeVersions();
        for (int t = 0; t < 3; t++) {
            x.fill(t, 0, 1, 100, 1);
            x.fill(t, 100, 1, 100, 1);
        }
        x.commit();
        x.open(1);
        for (int t = 0; t < 3; t++) {
            x.fill(t, 0, 1, 100, 2);
            x.fill(t, 100, 1, 100, 2);
        }
        x.commit();
        x.go(1);
        for (int t = 0; t < 3; t++) {
            x.fill(t, 0, 1, 100, 3);
            x.fill(t, 100, 1, 100, 3);
        }
        x.commit();
        for (calls = 23; calls + 2 <= CALLS; calls += 2) {
            if (x.merge(0) != 602) {
                wrong++;
            }
            x.reset();
        }
        return allocated() - before;
    }
}
