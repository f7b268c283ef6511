import java.lang.management.ManagementFactory;

/** What a run makes counts to its end, so no call may make anything: all room is taken by the constructor. */
public final class RoomTest {
    /** A single row of 60 numbers for each call would already take more. */
    private static final long MOST_BYTES = 64 * 1024;

    private static LeaningTrees busyTree() {
        LeaningTrees tree = new LeaningTrees();
        for (int key = 0; key < 50; key++) {
            tree.putIn(key, key);
        }
        return tree;
    }

    private static void useAll(LeaningTrees tree, int times) {
        for (int time = 0; time < times; time++) {
            tree.set(time % 3, 60);
            tree.putIn(time % 70, time);
            tree.remove(time % 50);
            tree.rebuild(time % 50);
            tree.worst(0);
            tree.wouldCost(time);
            tree.meanDepth(1);
            tree.leaning(time % 50);
            tree.neighbour(time, time % 2);
            tree.put(0x2b31L);
            tree.carryOut();
            tree.fault();
            tree.wipe();
            tree.save(time % 2);
            tree.restore(time % 2);
            tree.undo();
        }
    }

    public static void main(String[] args) {
        Checks checks = new Checks();
        com.sun.management.ThreadMXBean threads =
            (com.sun.management.ThreadMXBean) ManagementFactory.getThreadMXBean();
        useAll(busyTree(), 100);
        LeaningTrees tree = busyTree();
        long self = Thread.currentThread().getId();
        long before = threads.getThreadAllocatedBytes(self);
        useAll(tree, 1000);
        long made = threads.getThreadAllocatedBytes(self) - before;
        checks.holds("the room that the calls took, " + made + " bytes, is small", made < MOST_BYTES);
        checks.end("RoomTest");
    }
}
