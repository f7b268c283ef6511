/** Changes, and promises 1 to 5. */
final class ChangesEdges extends Edges {
    private static final String PAYS =
        "Into all nodes of the way (also the one in which it ends, or the new one) PAY is paid.";
    private static final String LEANING_IS_REBUILT =
        "of the nodes of its way that lean, the one nearest to the root, if there is one, is rebuilt.";
    private static final String TOO_HOLLOW =
        "If 100 times the hollow nodes are more than HOLLOW times all nodes, the whole tree is rebuilt.";
    private static final String LAID_ANEW = "of so many of them, the one in the place (their number less 1) / 2,"
        + " from 0 on, is the root of this part, those ahead of it are laid likewise to its left, those behind it"
        + " to its right.";
    private static final String SPENT =
        "What was paid into all nodes from it downwards (hollow ones, too) is spent";
    private static final String FUNDS =
        "the funds (0 at first) become greater by that, and less by the weight that it had";
    private static final String NOTHING_FULL =
        "(If there are no full nodes, there is nothing in this place then.)";
    private static final String NO_ROOM = "TOO_MANY if there are 60 nodes, and none has this key.";
    private static final String HOW_MANY =
        "Returns how many nodes were rebuilt: the weight that the rebuilt node had, or 0";

    private void paid(String when, LeaningTrees tree, int... keysAndPaid) {
        int all = 0;
        for (int place = 0; place < keysAndPaid.length; place += 2) {
            int key = keysAndPaid[place];
            due("node(" + key + ", 4) " + when, tree.node(key, 4), keysAndPaid[place + 1]);
            all += keysAndPaid[place + 1];
        }
        due("count(6) " + when, tree.count(6), all);
    }

    // ---- Promise 1: A new object

    @Says("Creates an empty tree.")
    void aNewTreeIsEmpty() {
        LeaningTrees tree = new LeaningTrees();
        int[] counts = {0, 0, NONE, NONE, 0, 1000000, 0, 0, 0, 0, 70, 40, 2, 0, 0};
        for (int what = 0; what < counts.length; what++) {
            due("count(" + what + ")", tree.count(what), counts[what]);
        }
        due("meanDepth(0)", tree.meanDepth(0), 0);
        due("meanDepth(1)", tree.meanDepth(1), 0);
        for (int key : new int[] {0, 500, 999}) {
            due("value(" + key + ")", tree.value(key), NONE);
            due("node(" + key + ", 2)", tree.node(key, 2), NO_SUCH);
            due("leaning(" + key + ")", tree.leaning(key), NO_SUCH);
            due("rank(" + key + ")", tree.rank(key), 0);
            due("neighbour(" + key + ", 0)", tree.neighbour(key, 0), NONE);
            due("neighbour(" + key + ", 1)", tree.neighbour(key, 1), NONE);
            due("wouldCost(" + key + ")", tree.wouldCost(key), 0);
            due("remove(" + key + ")", tree.remove(key), NO_SUCH);
            due("rebuild(" + key + ")", tree.rebuild(key), NO_SUCH);
        }
        due("kth(0)", tree.kth(0), NO_SUCH);
        due("sum(0, 999)", tree.sum(0, 999), 0);
    }

    @Says("Creates an empty tree.")
    void objectsAreApart() {
        LeaningTrees one = new LeaningTrees();
        LeaningTrees other = new LeaningTrees();
        layBusy(one);
        due("count(0)", other.count(0), 0);
        due("count(11)", other.count(11), 40);
        due("count(13)", other.count(13), 0);
        due("undo()", other.undo(), NOT_POSSIBLE);
        due("restore(0)", other.restore(0), NOT_POSSIBLE);
    }

    // ---- Promise 2: set

    @Says("Changes a setting (nothing is rebuilt by that).")
    void setRebuildsNothing() {
        LeaningTrees tree = hollowAt(chain(7), 1, 2, 3);
        String before = Look.shapeOf(tree);
        due("set(LEAN, 55)", tree.set(LEAN, 55), 95);
        due("count(9): 5 nodes lean", tree.count(9), 5);
        due("set(HOLLOW, 10): 300 is above 70", tree.set(HOLLOW, 10), 90);
        due("set(PAY, 9)", tree.set(PAY, 9), 0);
        shape("as before", tree, before);
        due("count(7)", tree.count(7), 0);
        due("count(6)", tree.count(6), 0);
        due("count(4)", tree.count(4), 0);
    }

    @Says("Returns the previous value; BAD_VALUE if there is no such setting, or the value is out of its range.")
    void thereAreThreeSettings() {
        LeaningTrees tree = new LeaningTrees();
        for (int setting : new int[] {-1, 3, LEAST_INT, GREATEST_INT}) {
            due("set(" + setting + ", 60)", tree.set(setting, 60), BAD_VALUE);
            due("set(" + setting + ", 5)", tree.set(setting, 5), BAD_VALUE);
        }
        due("set(0, 60)", tree.set(0, 60), 70);
        due("set(1, 60)", tree.set(1, 60), 40);
        due("set(2, 5)", tree.set(2, 5), 2);
        due("set(0, 61)", tree.set(0, 61), 60);
        due("set(1, 61)", tree.set(1, 61), 60);
        due("set(2, 6)", tree.set(2, 6), 5);
    }

    @Says("Returns the previous value; BAD_VALUE if there is no such setting, or the value is out of its range.")
    void eachSettingHasARangeOfItsOwn() {
        LeaningTrees tree = new LeaningTrees();
        due("set(LEAN, 10): right for HOLLOW alone", tree.set(LEAN, 10), BAD_VALUE);
        due("set(HOLLOW, 95): right for LEAN alone", tree.set(HOLLOW, 95), BAD_VALUE);
        due("set(HOLLOW, 5): right for PAY alone", tree.set(HOLLOW, 5), BAD_VALUE);
        due("set(PAY, 55): right for the others", tree.set(PAY, 55), BAD_VALUE);
    }

    // ---- the way, and putting in: promise 3

    @Says("The way of a key goes from the root downwards, to the left if the key is less than that of the node, to the"
        + " right if it is greater, up to the node with this key, or to where there is no child.")
    void theWayEndsAtItsNode() {
        LeaningTrees tree = calm(50, 20, 80, 10, 30, 70, 90);
        tree.set(PAY, 1);
        tree.putIn(50, 0);
        paid("after the way of the root", tree, 50, 1, 20, 0, 80, 0, 10, 0, 30, 0, 70, 0, 90, 0);
        tree.putIn(20, 0);
        paid("after the way of 20", tree, 50, 2, 20, 1, 80, 0, 10, 0, 30, 0, 70, 0, 90, 0);
        tree.putIn(70, 0);
        paid("after the way of 70", tree, 50, 3, 20, 1, 80, 1, 10, 0, 30, 0, 70, 1, 90, 0);
    }

    @Says("if its way ends at a node, this node gets the value, and is full")
    void aFullNodeGetsANewValue() {
        LeaningTrees tree = calm(50, 20, 80);
        due("putIn(20, 999)", tree.putIn(20, 999), 0);
        due("value(20)", tree.value(20), 999);
        due("node(20, 5)", tree.node(20, 5), 1);
        due("count(0)", tree.count(0), 3);
        shape("as it was", tree, "50(20 80)");
    }

    @Says("if its way ends at a node, this node gets the value, and is full")
    void aHollowNodeIsFullAgain() {
        LeaningTrees tree = hollowAt(calm(50, 20, 80), 20);
        shape("with a hollow node", tree, "50(20~ 80)");
        due("putIn(20, 0)", tree.putIn(20, 0), 0);
        shape("without one", tree, "50(20 80)");
        due("value(20): the new one", tree.value(20), 0);
        due("count(1)", tree.count(1), 3);
    }

    @Says("Otherwise a new full node comes there.")
    void aNewNodeComesAtTheEndOfItsWay() {
        LeaningTrees tree = calm(50);
        shape("with its first node, the root,", tree, "50");
        tree.putIn(20, 0);
        tree.putIn(80, 0);
        tree.putIn(49, 0);
        tree.putIn(51, 0);
        shape("with ends of ways", tree, "50(20(. 49) 80(51 .))");
        due("node(49, 5)", tree.node(49, 5), 1);
    }

    @Says("Otherwise a new full node comes there.")
    void aNewNodeComesBelowHollowOnes() {
        LeaningTrees tree = hollowAt(calm(50, 20, 80), 50, 20);
        tree.putIn(30, 3);
        shape("with a way through hollow nodes", tree, "50~(20~(. 30) 80)");
    }

    @Says(PAYS)
    void theEndOfTheWayIsPaidToo() {
        LeaningTrees tree = calm(50, 20, 80, 10);
        tree.set(PAY, 3);
        tree.putIn(20, 0);
        paid("after the way ended in 20", tree, 50, 3, 20, 3, 80, 0, 10, 0);
    }

    @Says(PAYS)
    void theNewNodeIsPaidToo() {
        LeaningTrees tree = calm(50, 20, 80, 10);
        tree.set(PAY, 3);
        tree.putIn(30, 0);
        paid("after 30 came", tree, 50, 3, 20, 3, 80, 0, 10, 0, 30, 3);
    }

    @Says(PAYS)
    void theFirstNodeOfAllIsPaid() {
        LeaningTrees tree = new LeaningTrees();
        tree.putIn(7, 0);
        paid("after the root came", tree, 7, 2);
    }

    @Says(PAYS)
    void theHollowEndOfTheWayIsPaidToo() {
        LeaningTrees tree = hollowAt(calm(50, 20, 80), 80);
        tree.set(PAY, 4);
        tree.putIn(80, 0);
        paid("after 80 is full again", tree, 50, 4, 20, 0, 80, 4);
    }

    @Says(PAYS)
    void theLeastAndTheGreatestPay() {
        LeaningTrees tree = calm(50, 20);
        tree.putIn(20, 0);
        paid("with PAY 0", tree, 50, 0, 20, 0);
        tree.set(PAY, 9);
        tree.putIn(20, 0);
        paid("with PAY 9", tree, 50, 9, 20, 9);
        tree.remove(20);
        paid("with PAY 9, twice", tree, 50, 18, 20, 18);
    }

    @Says("Then, if a new node came (a hollow one that is full again is none)")
    void aHollowNodeThatIsFullAgainIsNoNewOne() {
        LeaningTrees tree = hollowAt(chain(5), 5);
        tree.set(LEAN, 55);
        due("putIn(5, 8), where 3 nodes of its way lean,", tree.putIn(5, 8), 0);
        shape("as it was", tree, "1(. 2(. 3(. 4(. 5))))");
        due("count(7)", tree.count(7), 0);
    }

    @Says("Then, if a new node came (a hollow one that is full again is none)")
    void aFullNodeIsNoNewOne() {
        LeaningTrees tree = chain(5);
        tree.set(LEAN, 55);
        due("putIn(5, 8), where 3 nodes of its way lean,", tree.putIn(5, 8), 0);
        due("putIn(1, 8)", tree.putIn(1, 8), 0);
        shape("as it was", tree, "1(. 2(. 3(. 4(. 5))))");
    }

    @Says(LEANING_IS_REBUILT)
    void ofSeveralTheOneNearestToTheRoot() {
        LeaningTrees tree = chain(7);
        tree.set(LEAN, 55);
        due("putIn(8, 0), where 6 nodes lean then,", tree.putIn(8, 0), 8);
        shape("all anew", tree, "4(2(1 3) 6(5 7(. 8)))");
        due("count(7)", tree.count(7), 1);
    }

    @Says(LEANING_IS_REBUILT)
    void belowARootThatDoesNotLean() {
        LeaningTrees tree = calm(50, 10, 20, 30, 40, 60, 70, 80, 90);
        tree.set(LEAN, 60);
        due("putIn(95, 0)", tree.putIn(95, 0), 5);
        shape("anew below 50 on the right alone", tree,
            "50(10(. 20(. 30(. 40))) 80(60(. 70) 90(. 95)))");
        due("node(10, 7): off the way it still leans", tree.node(10, 7), 1);
        due("count(7)", tree.count(7), 1);
    }

    @Says(LEANING_IS_REBUILT)
    void noneOfTheWayLeans() {
        LeaningTrees tree = calm(50, 10, 20, 30, 40, 70, 60, 80);
        tree.set(LEAN, 60);
        due("node(10, 7): off the way", tree.node(10, 7), 1);
        due("putIn(90, 0)", tree.putIn(90, 0), 0);
        due("node(10, 7)", tree.node(10, 7), 1);
        due("count(7)", tree.count(7), 0);
    }

    @Says(LEANING_IS_REBUILT)
    void exactlyAsHeavyAsAllowedIsNotRebuilt() {
        LeaningTrees tree = chain(3);
        tree.set(LEAN, 75);
        due("putIn(4, 0): 300 is not above 75 * 4", tree.putIn(4, 0), 0);
        due("putIn(5, 0): 400 is above 75 * 5", tree.putIn(5, 0), 5);
        tree = chain(20);
        due("putIn(21, 0): 2000 is above 95 * 21", tree.putIn(21, 0), 21);
    }

    @Says(LEANING_IS_REBUILT)
    void itLeansByTheOtherChild() {
        LeaningTrees tree = calm(10, 20, 30, 40, 50);
        tree.set(LEAN, 60);
        due("putIn(5, 0): 400 is above 60 * 6, on the other side,", tree.putIn(5, 0), 6);
        shape("all anew", tree, "20(5(. 10) 40(30 50))");
    }

    @Says(LEANING_IS_REBUILT)
    void theNewNodeStopsTheLeaning() {
        LeaningTrees tree = calm(10, 20, 30, 40);
        tree.set(LEAN, 60);
        due("node(10, 7): 300 is above 60 * 4", tree.node(10, 7), 1);
        due("putIn(5, 0): 300 is not above 60 * 5", tree.putIn(5, 0), 0);
        due("node(10, 7)", tree.node(10, 7), 0);
    }

    @Says(LEANING_IS_REBUILT)
    void itsHollowNodesGo() {
        LeaningTrees tree = hollowAt(chain(5), 1, 3);
        tree.set(LEAN, 70);
        due("putIn(6, 0): the weight with hollow nodes", tree.putIn(6, 0), 6);
        shape("anew without them", tree, "4(2 5(. 6))");
    }

    @Says(HOW_MANY)
    void whatWasRebuiltIsReturned() {
        LeaningTrees tree = new LeaningTrees();
        due("putIn(10, 0)", tree.putIn(10, 0), 0);
        due("putIn(20, 0)", tree.putIn(20, 0), 0);
        due("putIn(30, 0)", tree.putIn(30, 0), 0);
        due("putIn(40, 0): 300 is above 280", tree.putIn(40, 0), 4);
        due("putIn(50, 0)", tree.putIn(50, 0), 0);
        due("putIn(60, 0): 300 is above 280, below the root", tree.putIn(60, 0), 4);
    }

    @Says(NO_ROOM)
    void aNewKeyInSixtyNodes() {
        LeaningTrees tree = nodes(60);
        for (int key : new int[] {5, 595, 999}) {
            due("putIn(" + key + ", 0)", tree.putIn(key, 0), TOO_MANY);
        }
        due("count(0)", tree.count(0), 60);
    }

    @Says(NO_ROOM)
    void anOldKeyInSixtyNodes() {
        LeaningTrees tree = nodes(60);
        due("putIn(0, 77)", tree.putIn(0, 77), 0);
        due("value(0)", tree.value(0), 77);
        due("putIn(590, 78)", tree.putIn(590, 78), 0);
        due("value(590)", tree.value(590), 78);
    }

    @Says(NO_ROOM)
    void aHollowNodesKeyInSixtyNodes() {
        LeaningTrees tree = hollowAt(nodes(60), 590);
        due("putIn(585, 0)", tree.putIn(585, 0), TOO_MANY);
        due("putIn(590, 78)", tree.putIn(590, 78), 0);
        due("value(590)", tree.value(590), 78);
        due("count(1)", tree.count(1), 60);
    }

    @Says("BAD_VALUE if an argument is out of range")
    void putInTakesKeysAndValuesFrom0To999() {
        LeaningTrees tree = new LeaningTrees();
        for (int wrong : NO_NUMBERS) {
            due("putIn(" + wrong + ", 0)", tree.putIn(wrong, 0), BAD_VALUE);
            due("putIn(0, " + wrong + ")", tree.putIn(0, wrong), BAD_VALUE);
            due("putIn(" + wrong + ", " + wrong + ")", tree.putIn(wrong, wrong), BAD_VALUE);
        }
        due("putIn(0, 0)", tree.putIn(0, 0), 0);
        due("putIn(999, 999)", tree.putIn(999, 999), 0);
        due("count(0)", tree.count(0), 2);
    }

    // ---- removing: promise 4

    @Says("the node is hollow then (its value stays, but nobody sees it)")
    void nobodySeesTheValueOfAHollowNode() {
        LeaningTrees tree = hollowAt(calm(50, 20, 80), 20);
        due("value(20)", tree.value(20), NONE);
        due("node(20, 5)", tree.node(20, 5), 0);
        due("node(20, 2): it is still there", tree.node(20, 2), 1);
        due("sum(0, 999)", tree.sum(0, 999), 130);
        due("sum(20, 20)", tree.sum(20, 20), 0);
        tree.putIn(20, 3);
        due("sum(20, 20)", tree.sum(20, 20), 3);
    }

    @Says("Into all nodes of the way PAY is paid.")
    void theRemovedNodeIsPaidToo() {
        LeaningTrees tree = calm(50, 20, 80, 10);
        tree.set(PAY, 5);
        due("remove(20)", tree.remove(20), 0);
        paid("after the way of 20", tree, 50, 5, 20, 5, 80, 0, 10, 0);
        due("remove(50), the root,", tree.remove(50), 0);
        paid("after the way of the root", tree, 50, 10, 20, 5, 80, 0, 10, 0);
    }

    @Says(TOO_HOLLOW)
    void exactlyAsHollowAsAllowed() {
        LeaningTrees tree = chain(5);
        tree.set(HOLLOW, 40);
        due("remove(5): 100", tree.remove(5), 0);
        due("remove(4): 200 is not above 40 * 5", tree.remove(4), 0);
        due("count(0)", tree.count(0), 5);
        due("remove(3): 300 is", tree.remove(3), 5);
        shape("without hollow nodes", tree, "1(. 2)");
    }

    @Says(TOO_HOLLOW)
    void theLeastHollow() {
        LeaningTrees tree = chain(10);
        tree.set(HOLLOW, 10);
        due("remove(1): 100 is not above 10 * 10", tree.remove(1), 0);
        due("remove(2): 200 is", tree.remove(2), 10);
        due("count(0)", tree.count(0), 8);
        due("remove(3): 100 is above 10 * 8", tree.remove(3), 8);
        due("count(0)", tree.count(0), 7);
    }

    @Says(TOO_HOLLOW)
    void theGreatestHollow() {
        LeaningTrees tree = chain(10);
        for (int key = 1; key <= 9; key++) {
            due("remove(" + key + ")", tree.remove(key), 0);
        }
        due("count(0): 900 is not above 90 * 10", tree.count(0), 10);
        due("remove(10): 1000 is", tree.remove(10), 10);
        shape("with nothing left", tree, ".");
    }

    @Says(TOO_HOLLOW)
    void justTooHollow() {
        LeaningTrees tree = chain(3);
        tree.set(HOLLOW, 34);
        due("remove(3): 100 is not above 34 * 3", tree.remove(3), 0);
        tree.undo();
        tree.set(HOLLOW, 33);
        due("remove(3): 100 is above 33 * 3", tree.remove(3), 3);
        shape("without hollow nodes", tree, "1(. 2)");
    }

    @Says(TOO_HOLLOW)
    void ofSixtyNodes() {
        LeaningTrees tree = nodes(60);
        for (int place = 0; place < 24; place++) {
            due("remove(" + 10 * place + ")", tree.remove(10 * place), 0);
        }
        due("count(0): 2400 is not above 40 * 60", tree.count(0), 60);
        due("remove(590): 2500 is", tree.remove(590), 60);
        due("count(0)", tree.count(0), 35);
        due("count(1)", tree.count(1), 35);
    }

    @Says(TOO_HOLLOW)
    void theWholeTreeNotTheNodeAlone() {
        LeaningTrees tree = hollowAt(calm(50, 20, 80, 10, 30, 70, 90), 10, 50);
        tree.set(HOLLOW, 40);
        due("remove(90), a leaf,", tree.remove(90), 7);
        shape("all anew", tree, "30(20 70(. 80))");
    }

    @Says(TOO_HOLLOW)
    void ofALeaningTreeNothingIsRebuiltForThat() {
        LeaningTrees tree = chain(7);
        tree.set(LEAN, 55);
        due("remove(7), where 5 nodes lean,", tree.remove(7), 0);
        due("count(7)", tree.count(7), 0);
    }

    @Says(TOO_HOLLOW)
    void theOnlyNode() {
        LeaningTrees tree = calm(5);
        due("remove(5): 100 is above 90", tree.remove(5), 1);
        shape("with nothing left", tree, ".");
        due("count(2)", tree.count(2), NONE);
        due("count(4)", tree.count(4), 1);
        due("count(5)", tree.count(5), 999999);
        due("count(7)", tree.count(7), 1);
        due("count(8)", tree.count(8), 1);
        due("remove(5)", tree.remove(5), NO_SUCH);
        due("putIn(5, 1)", tree.putIn(5, 1), 0);
        shape("with its first node again", tree, "5");
    }

    @Says("Returns how many nodes were rebuilt, as for putIn(); BAD_VALUE if key is not 0 to 999;"
        + " NO_SUCH if it is no key of the tree.")
    void onlyKeysAreRemoved() {
        LeaningTrees tree = hollowAt(calm(0, 999, 500), 500);
        for (int key : NO_NUMBERS) {
            due("remove(" + key + ")", tree.remove(key), BAD_VALUE);
        }
        due("remove(1), never there,", tree.remove(1), NO_SUCH);
        due("remove(500), hollow,", tree.remove(500), NO_SUCH);
        tree.rebuild(500);
        due("remove(500), gone,", tree.remove(500), NO_SUCH);
        due("remove(0)", tree.remove(0), 0);
        due("remove(999): 200 is above 180", tree.remove(999), 2);
    }

    // ---- rebuilding: promise 5

    @Says("its hollow nodes and those below it go")
    void hollowNodesElsewhereStay() {
        LeaningTrees tree = hollowAt(calm(50, 20, 80, 10, 30, 70, 90), 10, 90);
        due("rebuild(80)", tree.rebuild(80), 3);
        shape("anew on the right", tree, "50(20(10~ 30) 70(. 80))");
        due("rebuild(20)", tree.rebuild(20), 3);
        shape("anew on the left", tree, "50(20(. 30) 70(. 80))");
    }

    @Says("its hollow nodes and those below it go")
    void theRebuiltNodeItselfIsHollow() {
        LeaningTrees tree = hollowAt(calm(50, 20, 80, 10, 30), 20, 50);
        due("rebuild(20)", tree.rebuild(20), 3);
        shape("without 20", tree, "50~(10(. 30) 80)");
        due("rebuild(50)", tree.rebuild(50), 4);
        shape("without 50", tree, "30(10 80)");
    }

    @Says(LAID_ANEW)
    void partsOfEachNumber() {
        String[] shapes = {"1", "1(. 2)", "2(1 3)", "2(1 3(. 4))", "3(1(. 2) 4(. 5))", "3(1(. 2) 5(4 6))",
            "4(2(1 3) 6(5 7))", "4(2(1 3) 6(5 7(. 8)))", "5(2(1 3(. 4)) 7(6 8(. 9)))"};
        for (int length = 1; length <= shapes.length; length++) {
            LeaningTrees tree = chain(length);
            due("rebuild(1) of " + length, tree.rebuild(1), length);
            shape("of " + length, tree, shapes[length - 1]);
        }
    }

    @Says(LAID_ANEW)
    void allSixtyNodes() {
        LeaningTrees tree = nodes(60);
        tree.rebuild(tree.count(2));
        due("count(2)", tree.count(2), 290);
        due("node(290, 0): of 29", tree.node(290, 0), 140);
        due("node(290, 1): of 30", tree.node(290, 1), 440);
        due("count(3)", tree.count(3), 5);
        due("node(140, 2)", tree.node(140, 2), 29);
        due("node(440, 2)", tree.node(440, 2), 30);
    }

    @Says(LAID_ANEW)
    void aPartKeepsItsPlace() {
        LeaningTrees tree = calm(50, 10, 20, 30, 40, 60);
        due("rebuild(20)", tree.rebuild(20), 3);
        shape("anew from 20 downwards", tree, "50(10(. 30(20 40)) 60)");
        due("node(30, 3)", tree.node(30, 3), 2);
    }

    @Says(SPENT)
    void whatIsPaidIntoHollowNodesIsSpentToo() {
        LeaningTrees tree = calm(50, 20, 80);
        tree.set(PAY, 3);
        tree.remove(80);
        due("rebuild(80), hollow,", tree.rebuild(80), 1);
        due("count(5): 3 paid, weight 1", tree.count(5), 1000002);
        paid("after that", tree, 50, 3, 20, 0);
    }

    @Says(SPENT)
    void whatIsPaidAboveIsNotSpent() {
        LeaningTrees tree = calm(50, 20, 80, 90);
        tree.set(PAY, 4);
        tree.putIn(90, 0);
        due("rebuild(80)", tree.rebuild(80), 2);
        due("count(5): 8 paid, weight 2", tree.count(5), 1000006);
        paid("after that", tree, 50, 4, 20, 0, 80, 0, 90, 0);
    }

    @Says(SPENT)
    void theNewNodesPayIsSpentAtOnce() {
        LeaningTrees tree = chain(4);
        tree.set(LEAN, 70);
        tree.set(PAY, 2);
        due("putIn(5, 0)", tree.putIn(5, 0), 5);
        due("count(5): 10 paid, weight 5", tree.count(5), 1000005);
        due("count(6)", tree.count(6), 0);
    }

    @Says(SPENT)
    void theRemovedNodesPayIsSpentAtOnce() {
        LeaningTrees tree = calm(5);
        tree.set(PAY, 9);
        due("remove(5)", tree.remove(5), 1);
        due("count(5): 9 paid, weight 1", tree.count(5), 1000008);
        due("count(6)", tree.count(6), 0);
    }

    @Says(FUNDS)
    void fundsBelowZero() {
        LeaningTrees tree = chain(3);
        due("count(5)", tree.count(5), 1000000);
        tree.rebuild(1);
        due("count(5): nothing paid, weight 3", tree.count(5), 999997);
        tree.rebuild(2);
        due("count(5)", tree.count(5), 999994);
        tree.set(PAY, 9);
        tree.putIn(2, 0);
        tree.rebuild(2);
        due("count(5): 9 paid, weight 3", tree.count(5), 1000000);
    }

    @Says(FUNDS)
    void fundsAreLessByHollowNodesToo() {
        LeaningTrees tree = hollowAt(chain(6), 2, 4, 6);
        due("rebuild(1)", tree.rebuild(1), 6);
        due("count(5): the weight that it had", tree.count(5), 999994);
    }

    @Says("then nothing is paid into these nodes")
    void nothingIsPaidAfterRebuilding() {
        LeaningTrees tree = calm(50, 20, 80, 10);
        tree.set(PAY, 7);
        tree.putIn(10, 0);
        tree.putIn(80, 0);
        paid("before", tree, 50, 14, 20, 7, 80, 7, 10, 7);
        tree.rebuild(20);
        paid("after rebuild(20)", tree, 50, 14, 20, 0, 80, 7, 10, 0);
        tree.rebuild(50);
        paid("after rebuild(50)", tree, 50, 0, 20, 0, 80, 0, 10, 0);
    }

    @Says("The work (0 at first) becomes greater by this weight.")
    void workOfAllKinds() {
        LeaningTrees tree = hollowAt(chain(6), 6);
        due("count(4)", tree.count(4), 0);
        tree.rebuild(4);
        due("count(4) after rebuild() of 4, 5 and a hollow 6", tree.count(4), 3);
        tree.set(LEAN, 70);
        due("putIn(6, 0)", tree.putIn(6, 0), 6);
        due("count(4)", tree.count(4), 9);
        tree.set(HOLLOW, 10);
        due("remove(1)", tree.remove(1), 6);
        due("count(4)", tree.count(4), 15);
    }

    @Says(NOTHING_FULL)
    void aHollowLeafLeavesNothing() {
        LeaningTrees tree = hollowAt(calm(50, 20, 80), 20, 80);
        due("rebuild(20)", tree.rebuild(20), 1);
        shape("without a left child", tree, "50(. 80~)");
        due("rebuild(80)", tree.rebuild(80), 1);
        shape("without children", tree, "50");
        due("rebuild(80)", tree.rebuild(80), NO_SUCH);
        tree.putIn(20, 2);
        shape("with a child in this place again", tree, "50(20 .)");
    }

    @Says(NOTHING_FULL)
    void severalHollowNodesLeaveNothing() {
        LeaningTrees tree = hollowAt(calm(50, 20, 80, 70, 90), 70, 80, 90);
        due("rebuild(80)", tree.rebuild(80), 3);
        shape("without a right child", tree, "50(20 .)");
        due("count(0)", tree.count(0), 2);
        due("count(3)", tree.count(3), 1);
    }

    @Says(NOTHING_FULL)
    void aHollowTreeLeavesNothing() {
        LeaningTrees tree = calm(50, 20);
        due("remove(20)", tree.remove(20), 0);
        due("remove(50): 200 is above 180", tree.remove(50), 2);
        due("count(0)", tree.count(0), 0);
        due("count(2)", tree.count(2), NONE);
        due("count(3)", tree.count(3), NONE);
        due("rebuild(50)", tree.rebuild(50), NO_SUCH);
    }

    @Says("Returns the weight that it had; BAD_VALUE if key is not 0 to 999;"
        + " NO_SUCH if no node, full or hollow, has this key.")
    void nodesThatCanBeRebuilt() {
        LeaningTrees tree = hollowAt(calm(500, 0, 999), 999);
        for (int key : NO_NUMBERS) {
            due("rebuild(" + key + ")", tree.rebuild(key), BAD_VALUE);
        }
        due("rebuild(1)", tree.rebuild(1), NO_SUCH);
        due("rebuild(0), a full leaf,", tree.rebuild(0), 1);
        shape("as it was", tree, "500(0 999~)");
        due("rebuild(999), hollow,", tree.rebuild(999), 1);
        due("rebuild(999), gone,", tree.rebuild(999), NO_SUCH);
        due("rebuild(500)", tree.rebuild(500), 2);
        due("count(7)", tree.count(7), 3);
    }
}
