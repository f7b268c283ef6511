import java.lang.management.ManagementFactory;

/** What a run makes counts to its end, and all of it has to find one room. */
public final class RoomTest {
    /** There is room for 600,000 objects and arrays, none of which takes less than 16 bytes. */
    private static final long MOST_BYTES = 16 * 600_000L;
    private static final int CALLS = 512;

    private interface Call {
        void on(LeaningTrees tree, int time);
    }

    private static final Call[] DEAREST = {
        (tree, time) -> tree.set(time % 3, 60),
        (tree, time) -> tree.putIn(time % 59, time),
        (tree, time) -> tree.rebuild(290),
        (tree, time) -> tree.worst(0),
        (tree, time) -> tree.worst(1),
        (tree, time) -> tree.wouldCost(995),
        (tree, time) -> tree.meanDepth(1),
        (tree, time) -> tree.leaning(10 * (time % 59)),
        (tree, time) -> tree.neighbour(time, time % 2),
        (tree, time) -> tree.sum(0, 999),
        (tree, time) -> tree.count(9),
        (tree, time) -> tree.node(290, 8),
        (tree, time) -> tree.save(time % 2),
        (tree, time) -> tree.restore(0),
        (tree, time) -> tree.fault(),
        RoomTest::writeAndUndo};

    private static void writeAndUndo(LeaningTrees tree, int time) {
        switch (time % 4) {
            case 0:
                tree.put(Edges.number("+5;!290"));
                break;
            case 1:
                tree.carryOut();
                break;
            case 2:
                tree.put(Edges.number("12345678"));
                break;
            default:
                tree.undo();
        }
    }

    private static void run(Call call) {
        LeaningTrees tree = Edges.nodes(59);
        tree.save(0);
        for (int time = 60; time < CALLS; time++) {
            call.on(tree, time);
        }
    }

    public static void main(String[] args) {
        Checks checks = new Checks();
        com.sun.management.ThreadMXBean threads =
            (com.sun.management.ThreadMXBean) ManagementFactory.getThreadMXBean();
        long self = Thread.currentThread().getId();
        for (int place = 0; place < DEAREST.length; place++) {
            long before = threads.getThreadAllocatedBytes(self);
            run(DEAREST[place]);
            long made = threads.getThreadAllocatedBytes(self) - before;
            checks.holds("the room that a run of call " + place + " takes, " + made + " bytes, is enough",
                made <= MOST_BYTES);
        }
        checks.end("RoomTest");
    }
}
