/** For each promise of the document ordinary inputs, the edges that it names, and wrong inputs. */
public final class PromisesTest {
    private static final int NO_SUCH = -1, BAD_VALUE = -2, BAD_TEXT = -3, TOO_MANY = -4, NOT_POSSIBLE = -5, NONE = -6;

    private final Checks checks = new Checks();
    private String promise = "";

    public static void main(String[] args) {
        PromisesTest test = new PromisesTest();
        test.newObject();
        test.set();
        test.putIn();
        test.remove();
        test.rebuild();
        test.value();
        test.node();
        test.count();
        test.meanDepth();
        test.leaning();
        test.rank();
        test.kth();
        test.neighbour();
        test.sum();
        test.wouldCost();
        test.worst();
        test.put();
        test.wipe();
        test.fault();
        test.carryOut();
        test.undo();
        test.save();
        test.restore();
        test.checks.end("PromisesTest");
    }

    private LeaningTrees begin(String name) {
        promise = name;
        return new LeaningTrees();
    }

    private void due(String call, long got, long want) {
        checks.due("promise " + promise + ": " + call, got, want);
    }

    /** A chain 1, 2, .. to the right, which LEAN 95 lets stand, with nothing paid. */
    private static LeaningTrees chain(int length) {
        LeaningTrees tree = new LeaningTrees();
        tree.set(0, 95);
        tree.set(2, 0);
        for (int key = 1; key <= length; key++) {
            tree.putIn(key, 10 * key);
        }
        return tree;
    }

    private void newObject() {
        LeaningTrees tree = begin("1");
        int[] counts = {0, 0, NONE, NONE, 0, 1000000, 0, 0, 0, 0, 70, 40, 2, 0, 0};
        for (int what = 0; what < counts.length; what++) {
            due("count(" + what + ")", tree.count(what), counts[what]);
        }
        due("value(0)", tree.value(0), NONE);
        due("node(0, 0)", tree.node(0, 0), NO_SUCH);
        due("fault()", tree.fault(), 0);
        due("undo()", tree.undo(), NOT_POSSIBLE);
        due("restore(0)", tree.restore(0), NOT_POSSIBLE);
        due("worst(0)", tree.worst(0), 0);
        due("worst(1)", tree.worst(1), 0);
        due("rank(999)", tree.rank(999), 0);
        due("sum(0, 999)", tree.sum(0, 999), 0);
        LeaningTrees other = new LeaningTrees();
        other.putIn(1, 1);
        due("count(0) beside another object", tree.count(0), 0);
    }

    private void set() {
        LeaningTrees tree = begin("2");
        due("set(0, 55)", tree.set(0, 55), 70);
        due("set(0, 95)", tree.set(0, 95), 55);
        due("set(1, 10)", tree.set(1, 10), 40);
        due("set(1, 90)", tree.set(1, 90), 10);
        due("set(2, 0)", tree.set(2, 0), 2);
        due("set(2, 9)", tree.set(2, 9), 0);
        due("count(14)", tree.count(14), 6);
        int[][] wrong = {{-1, 60}, {3, 60}, {0, 54}, {0, 96}, {1, 9}, {1, 91}, {2, -1}, {2, 10},
            {Integer.MIN_VALUE, 1}, {Integer.MAX_VALUE, 1}, {0, Integer.MIN_VALUE}, {1, Integer.MAX_VALUE}};
        for (int[] call : wrong) {
            due("set(" + call[0] + ", " + call[1] + ")", tree.set(call[0], call[1]), BAD_VALUE);
        }
        due("count(10)", tree.count(10), 95);
        due("count(11)", tree.count(11), 90);
        due("count(12)", tree.count(12), 9);
        LeaningTrees fresh = new LeaningTrees();
        fresh.set(0, 54);
        due("count(14) after an error", fresh.count(14), 0);
        fresh.set(0, 70);
        due("count(14) though nothing is different", fresh.count(14), 1);
        LeaningTrees chain = chain(7);
        chain.set(0, 55);
        due("count(7): nothing is rebuilt by it", chain.count(7), 0);
        due("count(9)", chain.count(9), 5);
    }

    private void putIn() {
        LeaningTrees tree = begin("3");
        due("putIn(10, 0)", tree.putIn(10, 0), 0);
        due("putIn(20, 999)", tree.putIn(20, 999), 0);
        due("putIn(30, 3)", tree.putIn(30, 3), 0);
        due("count(6)", tree.count(6), 12);
        due("putIn(40, 4): 300 is above 280", tree.putIn(40, 4), 4);
        due("count(6): spent", tree.count(6), 0);
        due("count(5): 20 paid, weight 4", tree.count(5), 1000016);
        due("putIn(10, 7) again", tree.putIn(10, 7), 0);
        due("node(10, 4)", tree.node(10, 4), 2);
        due("node(20, 4)", tree.node(20, 4), 2);
        due("value(10)", tree.value(10), 7);
        due("count(0)", tree.count(0), 4);
        int[][] wrong = {{-1, 0}, {1000, 0}, {0, -1}, {0, 1000}, {Integer.MIN_VALUE, 0}, {0, Integer.MAX_VALUE}};
        for (int[] call : wrong) {
            due("putIn(" + call[0] + ", " + call[1] + ")", tree.putIn(call[0], call[1]), BAD_VALUE);
        }
        due("count(14) after errors", tree.count(14), 5);
        hollowIsFullAgain();
        exactlyAsHeavyAsAllowed();
        sixtyNodes();
    }

    private void hollowIsFullAgain() {
        LeaningTrees tree = chain(5);
        tree.set(1, 90);
        tree.remove(5);
        tree.set(0, 55);
        tree.set(2, 3);
        due("putIn(5, 8) into a hollow node rebuilds nothing", tree.putIn(5, 8), 0);
        due("value(5)", tree.value(5), 8);
        due("node(5, 5)", tree.node(5, 5), 1);
        due("count(0)", tree.count(0), 5);
        due("count(6): 5 nodes of the way", tree.count(6), 15);
        due("putIn(0, 0): the root leans by its other child", tree.putIn(0, 0), 6);
        due("count(2)", tree.count(2), 2);
    }

    private void exactlyAsHeavyAsAllowed() {
        LeaningTrees tree = new LeaningTrees();
        tree.set(0, 75);
        tree.putIn(1, 0);
        tree.putIn(2, 0);
        tree.putIn(3, 0);
        due("putIn(4, 0): 300 is not above 75 * 4", tree.putIn(4, 0), 0);
        due("putIn(5, 0): 400 is above 375", tree.putIn(5, 0), 5);
    }

    private void sixtyNodes() {
        LeaningTrees tree = Edges.nodes(60);
        due("count(0)", tree.count(0), 60);
        due("putIn(5, 0)", tree.putIn(5, 0), TOO_MANY);
        due("putIn(999, 0)", tree.putIn(999, 0), TOO_MANY);
        due("putIn(5, 1000): the first error", tree.putIn(5, 1000), BAD_VALUE);
        due("putIn(10, 77)", tree.putIn(10, 77), 0);
        due("value(10)", tree.value(10), 77);
        tree.remove(10);
        due("putIn(5, 0) with a hollow one among 60", tree.putIn(5, 0), TOO_MANY);
        due("putIn(10, 78)", tree.putIn(10, 78), 0);
        due("value(10)", tree.value(10), 78);
    }

    private void remove() {
        LeaningTrees tree = begin("4");
        for (int key = 1; key <= 5; key++) {
            tree.putIn(key, key);
        }
        due("count(4)", tree.count(4), 4);
        int paid = tree.count(6);
        due("remove(5)", tree.remove(5), 0);
        due("count(6): 2 into each node of the way", tree.count(6), paid + 2 * (tree.node(5, 3) + 1));
        due("remove(5) again", tree.remove(5), NO_SUCH);
        due("remove(4): 200 is not above 40 * 5", tree.remove(4), 0);
        due("count(1)", tree.count(1), 3);
        due("remove(1): 300 is above 200", tree.remove(1), 5);
        due("count(0)", tree.count(0), 2);
        due("count(2)", tree.count(2), 2);
        due("count(6)", tree.count(6), 0);
        due("remove(6)", tree.remove(6), NO_SUCH);
        due("remove(-1)", tree.remove(-1), BAD_VALUE);
        due("remove(1000)", tree.remove(1000), BAD_VALUE);
        due("remove(2): 100 is above 80", tree.remove(2), 2);
        due("remove(3)", tree.remove(3), 1);
        due("count(0)", tree.count(0), 0);
        due("remove(3) of an empty tree", tree.remove(3), NO_SUCH);
        due("count(14)", tree.count(14), 6);
    }

    private void rebuild() {
        LeaningTrees tree = begin("5");
        due("rebuild(0) of an empty tree", tree.rebuild(0), NO_SUCH);
        tree = chain(6);
        tree.set(1, 90);
        tree.set(2, 1);
        tree.putIn(6, 0);
        tree.remove(3);
        due("rebuild(3): a hollow node", tree.rebuild(3), 4);
        due("node(2, 1): the middle of 4, 5, 6", tree.node(2, 1), 5);
        due("node(5, 0)", tree.node(5, 0), 4);
        due("node(5, 1)", tree.node(5, 1), 6);
        due("node(3, 0)", tree.node(3, 0), NO_SUCH);
        due("count(5): 5 paid below, weight 4", tree.count(5), 1000001);
        due("count(6): 2 into each of 1 and 2 stays", tree.count(6), 4);
        due("count(4)", tree.count(4), 4);
        due("count(7)", tree.count(7), 1);
        tree.remove(6);
        due("rebuild(6): nothing full is there", tree.rebuild(6), 1);
        due("node(5, 1)", tree.node(5, 1), NONE);
        due("node(5, 4): what is paid above stays", tree.node(5, 4), 1);
        due("rebuild(1)", tree.rebuild(1), 4);
        due("count(2): place (4 - 1) / 2", tree.count(2), 2);
        due("rebuild(6)", tree.rebuild(6), NO_SUCH);
        due("rebuild(-1)", tree.rebuild(-1), BAD_VALUE);
        due("rebuild(1000)", tree.rebuild(1000), BAD_VALUE);
        due("count(7)", tree.count(7), 3);
        evenShapes();
    }

    private void evenShapes() {
        int[] roots = {1, 1, 2, 2, 3, 3, 4, 4, 5, 5, 6};
        int[] depths = {0, 1, 1, 2, 2, 2, 2, 3, 3, 3, 3};
        for (int length = 1; length <= roots.length; length++) {
            LeaningTrees tree = chain(length);
            due("rebuild(1) of " + length, tree.rebuild(1), length);
            due("count(2) of " + length, tree.count(2), roots[length - 1]);
            due("count(3) of " + length, tree.count(3), depths[length - 1]);
        }
    }

    private void value() {
        LeaningTrees tree = begin("6");
        tree.set(1, 90);
        tree.putIn(0, 999);
        tree.putIn(999, 0);
        due("value(0)", tree.value(0), 999);
        due("value(999)", tree.value(999), 0);
        due("value(5)", tree.value(5), NONE);
        due("value(-1)", tree.value(-1), BAD_VALUE);
        due("value(1000)", tree.value(1000), BAD_VALUE);
        tree.remove(999);
        due("count(0)", tree.count(0), 2);
        due("value(999) of a hollow node", tree.value(999), NONE);
    }

    private void node() {
        LeaningTrees tree = begin("7");
        for (int key = 1; key <= 4; key++) {
            tree.putIn(10 * key, key);
        }
        tree.set(1, 90);
        tree.remove(40);
        long[][] want = {
            {10, NONE, NONE, 1, 1, 0, 1, 1, 0, 0},
            {20, 10, 30, 4, 0, 2, 1, 3, 0, 2},
            {30, NONE, 40, 2, 1, 2, 1, 1, 0, 1},
            {40, NONE, NONE, 1, 2, 2, 0, 0, 0, 0}};
        for (long[] node : want) {
            int key = (int) node[0];
            for (int what = 0; what <= 8; what++) {
                due("node(" + key + ", " + what + ")", tree.node(key, what), node[what + 1]);
            }
        }
        tree.putIn(50, 5);
        tree.set(0, 60);
        due("node(20, 7): 300 is not above 60 * 5", tree.node(20, 7), 0);
        due("node(30, 7): 200 is above 60 * 3", tree.node(30, 7), 1);
        due("node(25, 2)", tree.node(25, 2), NO_SUCH);
        due("node(-1, 2)", tree.node(-1, 2), BAD_VALUE);
        due("node(1000, 2)", tree.node(1000, 2), BAD_VALUE);
        due("node(20, -1)", tree.node(20, -1), BAD_VALUE);
        due("node(20, 9)", tree.node(20, 9), BAD_VALUE);
        due("node(25, 9): the first error", tree.node(25, 9), BAD_VALUE);
    }

    private void count() {
        LeaningTrees tree = begin("8");
        for (int key = 1; key <= 6; key++) {
            tree.putIn(10 * key, key);
        }
        tree.remove(10);
        tree.set(0, 55);
        tree.set(1, 41);
        tree.set(2, 3);
        Edges.write(tree, "+1;-2");
        int[] counts = {6, 5, 20, 3, 8, 1000026, 8, 2, 4, 1, 55, 41, 3, 5, 6};
        for (int what = 0; what < counts.length; what++) {
            due("count(" + what + ")", tree.count(what), counts[what]);
        }
        due("count(-1)", tree.count(-1), BAD_VALUE);
        due("count(15)", tree.count(15), BAD_VALUE);
        due("count(MIN)", tree.count(Integer.MIN_VALUE), BAD_VALUE);
        due("count(MAX)", tree.count(Integer.MAX_VALUE), BAD_VALUE);
        LeaningTrees debtor = chain(5);
        debtor.rebuild(1);
        debtor.rebuild(1);
        due("count(5) below 0 of its own", debtor.count(5), 999993);
        due("count(4): 5, then 2 below the new root", debtor.count(4), 7);
        debtor.rebuild(5);
        due("count(8): the greatest, not the latest", debtor.count(8), 5);
    }

    private void meanDepth() {
        LeaningTrees tree = begin("9");
        due("meanDepth(0)", tree.meanDepth(0), 0);
        due("meanDepth(1)", tree.meanDepth(1), 0);
        due("meanDepth(2)", tree.meanDepth(2), -2);
        due("meanDepth(-1)", tree.meanDepth(-1), -2);
        for (int length = 1; length <= 19; length++) {
            tree = chain(length);
            double mean = (length - 1) * length / 2 / (double) length;
            due("meanDepth(0) of " + length, tree.meanDepth(0), Double.doubleToLongBits(mean));
            due("meanDepth(1) of " + length, tree.meanDepth(1), Double.doubleToLongBits(mean % 1.0));
            tree.rebuild(1);
            int sum = 0;
            for (int key = 1; key <= length; key++) {
                sum += tree.node(key, 3);
            }
            double even = (double) sum / length;
            due("meanDepth(0) of " + length + " even", tree.meanDepth(0), Double.doubleToLongBits(even));
            due("meanDepth(1) of " + length + " even", tree.meanDepth(1), Double.doubleToLongBits(even % 1.0));
        }
    }

    private void leaning() {
        LeaningTrees tree = begin("10");
        due("leaning(0)", tree.leaning(0), NO_SUCH);
        tree = chain(19);
        for (int key = 1; key <= 19; key++) {
            float share = (float) (19 - key) / (float) (20 - key);
            due("leaning(" + key + ")", tree.leaning(key), Float.floatToIntBits(share));
        }
        tree.rebuild(1);
        due("leaning(10): 9 of 19", tree.leaning(10), Float.floatToIntBits(9.0f / 19.0f));
        due("leaning(1): a leaf", tree.leaning(1), 0);
        tree = new LeaningTrees();
        tree.putIn(5, 0);
        tree.putIn(4, 0);
        due("leaning(5): the left child is the heavier one", tree.leaning(5), Float.floatToIntBits(0.5f));
        due("leaning(-1)", tree.leaning(-1), BAD_VALUE);
        due("leaning(1000)", tree.leaning(1000), BAD_VALUE);
        tree.set(1, 90);
        tree.remove(5);
        due("leaning(5) of a hollow node", tree.leaning(5), Float.floatToIntBits(0.5f));
    }

    /** The keys 10, 30, 50 with the values 1, 3, 5, and a hollow node 40. */
    private static LeaningTrees threeKeys() {
        LeaningTrees tree = new LeaningTrees();
        tree.set(1, 90);
        for (int key : new int[] {30, 10, 50, 40}) {
            tree.putIn(key, key / 10);
        }
        tree.remove(40);
        return tree;
    }

    private void rank() {
        begin("11");
        LeaningTrees tree = threeKeys();
        int[][] want = {{0, 0}, {10, 0}, {11, 1}, {30, 1}, {40, 2}, {41, 2}, {50, 2}, {51, 3}, {999, 3},
            {-1, BAD_VALUE}, {1000, BAD_VALUE}};
        for (int[] each : want) {
            due("rank(" + each[0] + ")", tree.rank(each[0]), each[1]);
        }
    }

    private void kth() {
        begin("12");
        LeaningTrees tree = threeKeys();
        int[][] want = {{0, 10}, {1, 30}, {2, 50}, {3, NO_SUCH}, {-1, NO_SUCH}, {Integer.MIN_VALUE, NO_SUCH},
            {Integer.MAX_VALUE, NO_SUCH}};
        for (int[] each : want) {
            due("kth(" + each[0] + ")", tree.kth(each[0]), each[1]);
        }
        due("kth(0) of an empty tree", new LeaningTrees().kth(0), NO_SUCH);
    }

    private void neighbour() {
        begin("13");
        LeaningTrees tree = threeKeys();
        int[][] want = {{0, NONE, 10}, {9, NONE, 10}, {10, NONE, 30}, {20, 10, 30}, {30, 10, 50}, {40, 30, 50},
            {45, 30, 50}, {50, 30, NONE}, {51, 50, NONE}, {999, 50, NONE}, {-1, BAD_VALUE, BAD_VALUE},
            {1000, BAD_VALUE, BAD_VALUE}};
        for (int[] each : want) {
            due("neighbour(" + each[0] + ", 0)", tree.neighbour(each[0], 0), each[1]);
            due("neighbour(" + each[0] + ", 1)", tree.neighbour(each[0], 1), each[2]);
        }
        due("neighbour(30, 2)", tree.neighbour(30, 2), BAD_VALUE);
        due("neighbour(30, -1)", tree.neighbour(30, -1), BAD_VALUE);
    }

    private void sum() {
        begin("14");
        LeaningTrees tree = threeKeys();
        int[][] want = {{0, 999, 9}, {10, 50, 9}, {11, 50, 8}, {10, 49, 4}, {30, 30, 3}, {40, 40, 0}, {31, 49, 0},
            {51, 999, 0}, {50, 49, BAD_VALUE}, {-1, 5, BAD_VALUE}, {0, 1000, BAD_VALUE}, {1000, 1000, BAD_VALUE}};
        for (int[] each : want) {
            due("sum(" + each[0] + ", " + each[1] + ")", tree.sum(each[0], each[1]), each[2]);
        }
    }

    private void wouldCost() {
        LeaningTrees tree = begin("15");
        due("wouldCost(0) of an empty tree", tree.wouldCost(0), 0);
        tree = chain(7);
        due("wouldCost(8)", tree.wouldCost(8), 0);
        tree.set(0, 70);
        due("wouldCost(8): the root", tree.wouldCost(8), 8);
        due("wouldCost(0): 600 is above 70 * 8", tree.wouldCost(0), 8);
        tree.set(0, 75);
        due("wouldCost(0): 600 is not above 75 * 8", tree.wouldCost(0), 0);
        due("wouldCost(8): 700 is", tree.wouldCost(8), 8);
        due("wouldCost(7): a key", tree.wouldCost(7), 0);
        tree.set(1, 90);
        tree.remove(7);
        due("wouldCost(7): a hollow node", tree.wouldCost(7), 0);
        due("wouldCost(-1)", tree.wouldCost(-1), BAD_VALUE);
        due("wouldCost(1000)", tree.wouldCost(1000), BAD_VALUE);
        due("count(0): nothing came", tree.count(0), 7);
        due("count(6): nothing was paid", tree.count(6), 0);
        due("putIn(8, 0) as foretold", tree.putIn(8, 0), 8);
        tree = Edges.nodes(60);
        due("wouldCost(5)", tree.wouldCost(5), TOO_MANY);
        due("wouldCost(10)", tree.wouldCost(10), 0);
        due("wouldCost(1000): the first error", tree.wouldCost(1000), BAD_VALUE);
    }

    private void worst() {
        LeaningTrees tree = begin("16");
        tree = chain(7);
        tree.set(0, 75);
        due("worst(0): behind the chain", tree.worst(0), 8);
        due("worst(1)", tree.worst(1), 8);
        tree.set(0, 55);
        due("worst(0): of all keys the lowest", tree.worst(0), 0);
        due("worst(1)", tree.worst(1), 8);
        due("worst(2)", tree.worst(2), BAD_VALUE);
        due("worst(-1)", tree.worst(-1), BAD_VALUE);
        tree = new LeaningTrees();
        tree.set(0, 95);
        tree.putIn(0, 0);
        tree.putIn(1, 0);
        tree.putIn(4, 0);
        tree.putIn(999, 0);
        tree.set(0, 75);
        due("worst(0): 0 and 1 are nodes, the key 2 is free", tree.worst(0), 2);
        due("worst(1)", tree.worst(1), 5);
        tree.set(0, 95);
        due("worst(0): none would", tree.worst(0), 0);
        due("worst(1)", tree.worst(1), 0);
        tree = Edges.nodes(60);
        due("worst(0)", tree.worst(0), TOO_MANY);
        due("worst(1)", tree.worst(1), TOO_MANY);
        due("worst(2): the first error", tree.worst(2), BAD_VALUE);
    }

    private void put() {
        LeaningTrees tree = begin("17");
        due("put(0)", tree.put(0), BAD_VALUE);
        due("put(32)", tree.put(32), BAD_VALUE);
        due("put(127)", tree.put(127), BAD_VALUE);
        due("put(-1)", tree.put(-1), BAD_VALUE);
        due("put(255)", tree.put(255), BAD_VALUE);
        due("put(+, 0 bits)", tree.put(0x2b00L), BAD_VALUE);
        due("put(a bit above 0 bits)", tree.put(0x010000002bL), BAD_VALUE);
        due("put(the highest bit above 0 bits)", tree.put(Long.MIN_VALUE | 0x2bL), BAD_VALUE);
        due("put(a wrong code ahead)", tree.put(0x202b31L), BAD_VALUE);
        due("put(eight, the first above 126)", tree.put(0x80L << 56 | Edges.number("1234567")), BAD_VALUE);
        due("count(13)", tree.count(13), 0);
        due("put(33)", tree.put(33), 1);
        due("put(126)", tree.put(126), 2);
        due("put(12345678)", tree.put(Edges.number("12345678")), 10);
        for (int length = 18; length <= 74; length += 8) {
            due("put(12345678)", tree.put(Edges.number("12345678")), length);
        }
        due("put(1234567)", tree.put(Edges.number("1234567")), TOO_MANY);
        due("count(13)", tree.count(13), 74);
        due("put(123456)", tree.put(Edges.number("123456")), 80);
        due("put(1)", tree.put(Edges.number("1")), TOO_MANY);
        due("put(0): the first error", tree.put(0), BAD_VALUE);
        due("count(14): no change", tree.count(14), 0);
        tree = new LeaningTrees();
        Edges.write(tree, "+12=34");
        tree.carryOut();
        due("value(12): the lowest bits are the last character", tree.value(12), 34);
    }

    private void wipe() {
        LeaningTrees tree = begin("18");
        due("wipe()", tree.wipe(), 0);
        Edges.write(tree, "+12;-3xyz");
        due("wipe()", tree.wipe(), 9);
        due("count(13)", tree.count(13), 0);
        due("wipe()", tree.wipe(), 0);
        due("fault()", tree.fault(), 0);
        due("count(14): no change", tree.count(14), 0);
        Edges.write(tree, "+7");
        due("fault() of the new text alone", tree.fault(), NONE);
    }

    private void fault() {
        begin("19");
        Object[][] want = {{"", 0}, {"+", 1}, {"-", 1}, {"!", 1}, {"+0", NONE}, {"-0", NONE}, {"!999", NONE},
            {"+00", 2}, {"+01", 2}, {"+1000", 4}, {"+999", NONE}, {"+9999", 4}, {"+100", NONE}, {"-1234", 4},
            {"+1=", 3}, {"+1=2", NONE}, {"+1=0", NONE}, {"+1=02", 4}, {"+1=2=3", 4}, {"+=1", 1}, {"-1=2", 2},
            {"!1=2", 2}, {"+1;", 3}, {"+1;;", 3}, {";", 0}, {"1", 0}, {"=", 0}, {"x", 0}, {"+x", 1}, {"+1x", 2},
            {"+1+2", 2}, {"+1-2", 2}, {"+1!2", 2}, {"+-1", 1}, {"+1;-2;!3", NONE}, {"+1=999;-2;!3;+4=5", NONE},
            {"+1=1000", 6}, {"+1=2;", 5}, {"+1;-2=3", 5}, {"+1/", 2}, {"+1:", 2}, {"+1=2;+3=4=5", 9},
            {"+123=456;-789", NONE}, {"+0=0;-0;!0", NONE}, {"-1;+5=", 6}, {"+1=+2", 3}, {"+1;x", 3}};
        for (Object[] each : want) {
            LeaningTrees tree = new LeaningTrees();
            Edges.write(tree, (String) each[0]);
            due("fault() of " + each[0], tree.fault(), (int) each[1]);
            due("count(13): the pad stays", tree.count(13), ((String) each[0]).length());
        }
        LeaningTrees tree = new LeaningTrees();
        for (int times = 0; times < 10; times++) {
            Edges.write(tree, "+1;-1;+2");
        }
        due("fault() of 80 characters", tree.fault(), 8);
        tree.wipe();
        Edges.write(tree, "+1;+22;+333=4444");
        due("fault(): a fourth digit of a value", tree.fault(), 15);
    }

    private void carryOut() {
        LeaningTrees tree = begin("20");
        due("carryOut() of an empty pad", tree.carryOut(), BAD_TEXT);
        Edges.write(tree, "+5=7;x");
        due("carryOut()", tree.carryOut(), BAD_TEXT);
        due("count(13): it stays", tree.count(13), 6);
        due("count(0)", tree.count(0), 0);
        due("count(14)", tree.count(14), 0);
        tree.wipe();
        Edges.write(tree, "+5=7;+6;+7=0;-6;!5;+8=9");
        due("carryOut()", tree.carryOut(), 6);
        due("count(13)", tree.count(13), 0);
        due("count(14): one change", tree.count(14), 1);
        due("value(5)", tree.value(5), 7);
        due("value(6)", tree.value(6), NONE);
        due("node(6, 5): rebuilt", tree.node(6, 5), NO_SUCH);
        due("value(7)", tree.value(7), 0);
        due("value(8)", tree.value(8), 9);
        Edges.write(tree, "+20;-21;+22");
        due("carryOut(): up to the first error", tree.carryOut(), 1);
        due("value(20)", tree.value(20), 20);
        due("value(22)", tree.value(22), NONE);
        due("count(13)", tree.count(13), 0);
        Edges.write(tree, "!500;+22");
        due("carryOut(): none", tree.carryOut(), 0);
        due("count(14): a change, too", tree.count(14), 3);
        due("undo()", tree.undo(), 2);
        due("value(20)", tree.value(20), 20);
        due("undo(): all of a text at once", tree.undo(), 1);
        due("value(20)", tree.value(20), NONE);
        due("undo()", tree.undo(), 0);
        due("count(0)", tree.count(0), 0);
        due("count(13): the pad is not undone", tree.count(13), 0);
        tree = Edges.nodes(60);
        Edges.write(tree, "+10=5;+5;+20=6");
        due("carryOut(): too many nodes", tree.carryOut(), 1);
        due("value(10)", tree.value(10), 5);
        due("value(20)", tree.value(20), 2);
    }

    private void undo() {
        LeaningTrees tree = begin("21");
        due("undo()", tree.undo(), NOT_POSSIBLE);
        for (int key = 1; key <= 7; key++) {
            tree.putIn(key, key);
        }
        due("count(14)", tree.count(14), 6);
        due("undo()", tree.undo(), 5);
        due("count(1)", tree.count(1), 6);
        tree.undo();
        tree.undo();
        due("count(3) ahead of the first rebuilding", tree.undo() + tree.count(3), 4);
        due("count(4)", tree.count(4), 0);
        due("count(5)", tree.count(5), 1000000);
        due("count(6)", tree.count(6), 12);
        due("undo()", tree.undo(), 1);
        due("undo()", tree.undo(), 0);
        due("count(1): the oldest one was dropped", tree.count(1), 1);
        due("undo()", tree.undo(), NOT_POSSIBLE);
        due("count(1)", tree.count(1), 1);
        changesThatRecord();
        everythingComesBack();
    }

    private void changesThatRecord() {
        LeaningTrees tree = new LeaningTrees();
        tree.set(0, 70);
        due("count(14) after set()", tree.count(14), 1);
        tree.putIn(1, 1);
        due("count(14) after putIn()", tree.count(14), 2);
        tree.rebuild(1);
        due("count(14) after rebuild()", tree.count(14), 3);
        tree.remove(1);
        due("count(14) after remove()", tree.count(14), 4);
        tree.save(0);
        tree.restore(0);
        due("count(14) after restore()", tree.count(14), 5);
        Edges.write(tree, "-1");
        tree.carryOut();
        due("count(14) after carryOut()", tree.count(14), 6);
        tree.undo();
        tree.restore(2);
        tree.restore(1);
        tree.carryOut();
        tree.remove(1);
        tree.rebuild(1);
        tree.putIn(-1, 0);
        tree.wouldCost(5);
        tree.worst(1);
        due("count(14) after what is no change, or an error", tree.count(14), 5);
    }

    private void everythingComesBack() {
        LeaningTrees tree = chain(7);
        tree.set(1, 90);
        tree.remove(7);
        tree.set(2, 5);
        int[] before = new int[13];
        for (int what = 0; what < 13; what++) {
            before[what] = tree.count(what);
        }
        Edges.write(tree, "+1;+2=3;!1;-3;+20;+21;+22;-22;!22");
        tree.save(1);
        tree.carryOut();
        tree.set(0, 60);
        tree.set(1, 50);
        tree.set(2, 7);
        tree.save(0);
        for (int times = 0; times < 4; times++) {
            tree.undo();
        }
        for (int what = 0; what < 13; what++) {
            due("count(" + what + ") as before", tree.count(what), before[what]);
        }
        due("value(2)", tree.value(2), 20);
        due("node(7, 5)", tree.node(7, 5), 0);
        due("restore(0): slots are not undone", tree.restore(0), 7);
        due("count(12)", tree.count(12), 7);
        due("undo() of restore()", tree.undo(), 2);
        due("count(12)", tree.count(12), 5);
    }

    private void save() {
        LeaningTrees tree = begin("22");
        due("save(0)", tree.save(0), 0);
        due("save(-1)", tree.save(-1), BAD_VALUE);
        due("save(2)", tree.save(2), BAD_VALUE);
        tree.set(1, 90);
        tree.putIn(1, 1);
        tree.putIn(2, 2);
        tree.remove(2);
        due("save(1): a hollow node is no key", tree.save(1), 1);
        due("count(14): no change", tree.count(14), 4);
        tree.putIn(3, 3);
        due("restore(0)", tree.restore(0), 0);
        due("count(11)", tree.count(11), 40);
        due("restore(1)", tree.restore(1), 1);
        due("count(0)", tree.count(0), 2);
        due("count(11)", tree.count(11), 90);
        tree.putIn(3, 3);
        due("save(1) again", tree.save(1), 2);
        tree.remove(1);
        due("restore(1): the latest one", tree.restore(1), 2);
    }

    private void restore() {
        LeaningTrees tree = begin("23");
        due("restore(0)", tree.restore(0), NOT_POSSIBLE);
        due("restore(1)", tree.restore(1), NOT_POSSIBLE);
        due("restore(-1)", tree.restore(-1), BAD_VALUE);
        due("restore(2)", tree.restore(2), BAD_VALUE);
        due("count(14)", tree.count(14), 0);
        tree.putIn(1, 5);
        tree.putIn(2, 6);
        tree.set(2, 9);
        tree.save(0);
        due("restore(1): the other slot", tree.restore(1), NOT_POSSIBLE);
        tree.putIn(1, 7);
        tree.rebuild(1);
        tree.set(0, 90);
        Edges.write(tree, "+9");
        due("restore(0)", tree.restore(0), 2);
        due("value(1)", tree.value(1), 5);
        due("node(1, 4)", tree.node(1, 4), 4);
        due("count(4)", tree.count(4), 0);
        due("count(5)", tree.count(5), 1000000);
        due("count(7)", tree.count(7), 0);
        due("count(8)", tree.count(8), 0);
        due("count(10)", tree.count(10), 70);
        due("count(12)", tree.count(12), 9);
        due("count(13): the pad stays", tree.count(13), 2);
        due("count(14): a change", tree.count(14), 6);
        tree.remove(1);
        tree.remove(2);
        due("restore(0): the slot keeps it", tree.restore(0), 2);
        due("undo()", tree.undo(), 5);
        due("count(0)", tree.count(0), 0);
    }
}
