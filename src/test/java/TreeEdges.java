/** Settings, and what a tree is. */
final class TreeEdges extends Edges {
    private void rangeOfSetting(int setting, int first, int least, int greatest) {
        LeaningTrees tree = new LeaningTrees();
        due("count(" + (10 + setting) + ")", tree.count(10 + setting), first);
        for (int value : new int[] {least - 1, greatest + 1, LEAST_INT, GREATEST_INT}) {
            due("set(" + setting + ", " + value + ")", tree.set(setting, value), BAD_VALUE);
        }
        due("count(" + (10 + setting) + ")", tree.count(10 + setting), first);
        due("set(" + setting + ", " + least + ")", tree.set(setting, least), first);
        due("set(" + setting + ", " + greatest + ")", tree.set(setting, greatest), least);
        due("count(" + (10 + setting) + ")", tree.count(10 + setting), greatest);
        due("set(" + setting + ", " + first + ")", tree.set(setting, first), greatest);
    }

    @Says("LEAN (55 to 95; 70)")
    void rangeOfLean() {
        rangeOfSetting(LEAN, 70, 55, 95);
    }

    @Says("HOLLOW (10 to 90; 40)")
    void rangeOfHollow() {
        rangeOfSetting(HOLLOW, 40, 10, 90);
    }

    @Says("PAY (0 to 9; 2)")
    void rangeOfPay() {
        rangeOfSetting(PAY, 2, 0, 9);
    }

    @Says("Keys are 0 to 999, values 0 to 999.")
    void theKeysAtTheEnds() {
        LeaningTrees tree = calm(500);
        due("putIn(0, 7)", tree.putIn(0, 7), 0);
        due("putIn(999, 8)", tree.putIn(999, 8), 0);
        shape("with both ends", tree, "500(0 999)");
        due("value(0)", tree.value(0), 7);
        due("value(999)", tree.value(999), 8);
        for (int key : NO_NUMBERS) {
            due("putIn(" + key + ", 0)", tree.putIn(key, 0), BAD_VALUE);
        }
        due("count(0)", tree.count(0), 3);
    }

    @Says("Keys are 0 to 999, values 0 to 999.")
    void theValuesAtTheEnds() {
        LeaningTrees tree = new LeaningTrees();
        tree.putIn(5, 0);
        due("value(5)", tree.value(5), 0);
        tree.putIn(5, 999);
        due("value(5)", tree.value(5), 999);
        for (int value : NO_NUMBERS) {
            due("putIn(5, " + value + ")", tree.putIn(5, value), BAD_VALUE);
        }
        due("value(5)", tree.value(5), 999);
    }

    @Says("The tree has up to 60 nodes.")
    void theSixtiethNodeComesTheNextDoesNot() {
        LeaningTrees tree = nodes(59);
        due("count(0)", tree.count(0), 59);
        due("putIn(999, 1) is no error", tree.putIn(999, 1) >= 0 ? 1 : 0, 1);
        due("count(0)", tree.count(0), 60);
        due("putIn(998, 1)", tree.putIn(998, 1), TOO_MANY);
        due("count(0)", tree.count(0), 60);
        due("node(998, 2)", tree.node(998, 2), NO_SUCH);
    }

    @Says("The tree has up to 60 nodes.")
    void hollowNodesTakeRoomUntilTheyGo() {
        LeaningTrees tree = nodes(60);
        due("remove(0)", tree.remove(0), 0);
        due("count(1)", tree.count(1), 59);
        due("putIn(5, 5)", tree.putIn(5, 5), TOO_MANY);
        due("rebuild(root)", tree.rebuild(tree.count(2)), 60);
        due("count(0)", tree.count(0), 59);
        due("putIn(5, 5) is no error", tree.putIn(5, 5) >= 0 ? 1 : 0, 1);
        due("count(1)", tree.count(1), 60);
    }

    @Says("perhaps a left child (all nodes there have lesser keys) and a right child (greater ones)")
    void theNextKeysOnBothSides() {
        LeaningTrees tree = calm(500, 499, 501, 498, 502);
        shape("of next keys", tree, "500(499(498 .) 501(. 502))");
        due("node(500, 0)", tree.node(500, 0), 499);
        due("node(500, 1)", tree.node(500, 1), 501);
        due("node(499, 1)", tree.node(499, 1), NONE);
        due("node(501, 0)", tree.node(501, 0), NONE);
    }

    @Says("what is paid into it (0 when it comes)")
    void nothingIsPaidIntoANodeThatComes() {
        LeaningTrees tree = calm(50, 20);
        due("node(20, 4) with PAY 0", tree.node(20, 4), 0);
        tree.set(PAY, 9);
        tree.putIn(80, 1);
        due("node(80, 4): PAY, once", tree.node(80, 4), 9);
        tree.putIn(80, 1);
        due("node(80, 4): twice", tree.node(80, 4), 18);
        tree.remove(80);
        tree.rebuild(80);
        tree.putIn(80, 1);
        due("node(80, 4) of one that has gone and comes again", tree.node(80, 4), 9);
    }

    @Says("The keys of the tree are those of its full nodes.")
    void aHollowNodeIsNoKey() {
        LeaningTrees tree = hollowAt(calm(50, 20, 80), 50, 20);
        due("count(0)", tree.count(0), 3);
        due("count(1)", tree.count(1), 1);
        due("value(50)", tree.value(50), NONE);
        due("kth(0)", tree.kth(0), 80);
        due("kth(1)", tree.kth(1), NO_SUCH);
        due("rank(80)", tree.rank(80), 0);
        due("neighbour(80, 0)", tree.neighbour(80, 0), NONE);
        due("neighbour(0, 1)", tree.neighbour(0, 1), 80);
        due("sum(0, 999)", tree.sum(0, 999), 80);
        due("remove(50)", tree.remove(50), NO_SUCH);
        due("save(0)", tree.save(0), 1);
    }

    @Says("The weight of a node is how many nodes there are from it downwards (itself, too, and hollow ones).")
    void weightOfALeafAndWithHollowNodes() {
        LeaningTrees tree = hollowAt(calm(50, 20, 80, 10), 20, 80);
        due("node(10, 2)", tree.node(10, 2), 1);
        due("node(80, 2), hollow itself,", tree.node(80, 2), 1);
        due("node(20, 2)", tree.node(20, 2), 2);
        due("node(50, 2)", tree.node(50, 2), 4);
        due("node(50, 6)", tree.node(50, 6), 2);
    }

    @Says("The depth of the root is 0, that of a child one more than that of its parent.")
    void depthsFromTheRoot() {
        LeaningTrees tree = chain(20);
        for (int key = 1; key <= 20; key++) {
            due("node(" + key + ", 3)", tree.node(key, 3), key - 1);
        }
        tree.rebuild(1);
        due("node(10, 3) of the new root", tree.node(10, 3), 0);
        due("node(1, 3)", tree.node(1, 3), 3);
    }

    private void leansAbove(LeaningTrees tree, int key, int lean) {
        tree.set(LEAN, lean);
        due("node(" + key + ", 7) with LEAN " + lean, tree.node(key, 7), 0);
        tree.set(LEAN, lean - 1);
        due("node(" + key + ", 7) with LEAN " + (lean - 1), tree.node(key, 7), 1);
    }

    @Says("A node leans if a child of it has 100 times its weight above LEAN times the weight of the node.")
    void aChildExactlyAsHeavyDoesNotLean() {
        leansAbove(calm(1, 2, 3, 4), 1, 75);
        leansAbove(calm(4, 3, 2, 1), 4, 75);
        leansAbove(calm(2, 1, 3, 4, 5), 2, 60);
        leansAbove(calm(4, 5, 3, 2, 1), 4, 60);
        leansAbove(calm(1, 2, 3, 4, 5), 1, 80);
        leansAbove(chain(10), 1, 90);
        leansAbove(chain(20), 1, 95);
    }

    @Says("A node leans if a child of it has 100 times its weight above LEAN times the weight of the node.")
    void hollowChildrenAreHeavyToo() {
        leansAbove(hollowAt(calm(1, 2, 3, 4), 2, 3, 4), 1, 75);
    }

    @Says("A node leans if a child of it has 100 times its weight above LEAN times the weight of the node.")
    void smallTreesAtTheLeastLean() {
        LeaningTrees tree = calm(5);
        tree.set(LEAN, 55);
        due("node(5, 7) of a leaf", tree.node(5, 7), 0);
        tree.set(LEAN, 95);
        tree.putIn(6, 0);
        tree.set(LEAN, 55);
        due("node(5, 7) of two nodes: 100 is not above 110", tree.node(5, 7), 0);
        tree.set(LEAN, 95);
        tree.putIn(7, 0);
        tree.set(LEAN, 55);
        due("node(5, 7) of three in a row: 200 is above 165", tree.node(5, 7), 1);
        due("node(6, 7)", tree.node(6, 7), 0);
        due("count(9)", tree.count(9), 1);
        tree.rebuild(5);
        due("count(9) of three laid evenly", tree.count(9), 0);
    }
}
