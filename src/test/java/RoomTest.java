import com.sun.management.ThreadMXBean;
import java.lang.management.ManagementFactory;
import java.util.function.ObjIntConsumer;

/** What an object makes in its 512 calls stays small: rows are made once and used again. */
public final class RoomTest {
    private static final Checks c = new Checks("RoomTest");
    private static final ThreadMXBean THREADS = (ThreadMXBean) ManagementFactory.getThreadMXBean();
    /** Ten houses of some 2,000 numbers, 4 bytes each, and as much again for what else there may be. */
    private static final long MOST_BYTES = 2L * 10 * 2000 * 4;

    public static void main(String[] args) {
        for (int turn = 0; turn < 2; turn++) {
            // The first turn loads the classes, which is no part of what is counted.
            boolean counts = turn == 1;
            small(counts, "feed, append", (x, i) -> Checks.append(x, i % 6, "ab"));
            small(counts, "feed, find", (x, i) -> Checks.find(x, i % 6, "ab"));
            small(counts, "spoil", (x, i) -> x.spoil(i % 5, i % 10));
            small(counts, "tick", (x, i) -> x.tick(1 + i % 50));
            small(counts, "put", (x, i) -> x.put(0, i % 9, 'a' + i % 26));
            small(counts, "down, up", (x, i) -> {
                x.down(i % 5);
                x.up(i % 5);
            });
            small(counts, "remove, create, both, bring", (x, i) -> {
                x.remove(i % 6);
                x.bring(i % 6);
                x.both((i + 1) % 6, i % 6);
                x.create(i % 6, 1);
            });
            small(counts, "mend, beat", (x, i) -> {
                x.mend();
                x.beat(i % 5);
            });
            small(counts, "undo", (x, i) -> {
                x.tick(1);
                x.undo();
            });
            small(counts, "image, restore", (x, i) -> {
                x.image(i % 2);
                x.restore(i % 2);
            });
            small(counts, "house", (x, i) -> Checks.house(x, i % 2 == 0 ? "h5,3,9,20,20;" : "h9"));
            small(counts, "mends, odds, strength, left, target", (x, i) -> {
                x.mends();
                x.odds(i % 6, i % 11, i % 2);
                x.strength(i % 6);
                x.left(i % 6);
                x.target(1 + i % 5);
            });
            small(counts, "drawn", (x, i) -> x.drawn(12, 1 + i, i % 3));
        }
        c.end();
    }

    private static void small(boolean counts, String calls, ObjIntConsumer<GreatChunks> made) {
        long thread = Thread.currentThread().getId();
        long before = THREADS.getThreadAllocatedBytes(thread);
        GreatChunks x = new GreatChunks();
        Checks.house(x, "h5,3,9,20,20;s9;s8;f1;f3;f5;f4;f1;f1;");
        Checks.append(x, 0, "abc");
        for (int i = 0; i < 400; i++) {
            made.accept(x, i);
        }
        long bytes = THREADS.getThreadAllocatedBytes(thread) - before;
        if (counts) {
            c.about(calls);
            c.due("more than " + MOST_BYTES + " bytes (" + bytes + ")", bytes > MOST_BYTES ? 1 : 0, 0);
        }
    }
}
