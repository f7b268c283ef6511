/** Promises 6 to 10: value, node, count, meanDepth, leaning. */
final class WhatThereIsEdges extends Edges {
    private static final String NODE_ERRORS = "Returns the number; BAD_VALUE if key is not 0 to 999, or what is out"
        + " of range; NO_SUCH if no node, full or hollow, has this key.";
    private static final String MEAN = "the double that the sum of all depths gives, divided by the nodes.";
    private static final String LEFT_OVER = "1 what is left over of it by 1.0 (the remainder of doubles)";
    private static final String SHARE = "the float that the weight of its heavier child (0 without children) gives,"
        + " divided by its own weight (both made floats first).";

    // ---- Promise 6: value

    @Says("Returns the value; BAD_VALUE if key is not 0 to 999; NONE if it is no key of the tree.")
    void valuesOfKeysAlone() {
        LeaningTrees tree = hollowAt(calm(500, 0, 999, 7), 7);
        due("value(0)", tree.value(0), 0);
        due("value(999)", tree.value(999), 999);
        due("value(1), never there,", tree.value(1), NONE);
        due("value(7), hollow,", tree.value(7), NONE);
        tree.rebuild(7);
        due("value(7), gone,", tree.value(7), NONE);
        for (int key : NO_NUMBERS) {
            due("value(" + key + ")", tree.value(key), BAD_VALUE);
        }
    }

    // ---- Promise 7: node

    private void about(LeaningTrees tree, int what, int... keysAndNumbers) {
        for (int place = 0; place < keysAndNumbers.length; place += 2) {
            int key = keysAndNumbers[place];
            due("node(" + key + ", " + what + ")", tree.node(key, what), keysAndNumbers[place + 1]);
        }
    }

    /** 50(20(10~ 30(25 .)) 80~(. 90)), 9 of each paid into 50 and 80. */
    private static LeaningTrees someNodes() {
        LeaningTrees tree = hollowAt(calm(50, 20, 80, 10, 30, 90, 25), 10);
        tree.set(PAY, 9);
        tree.remove(80);
        return tree;
    }

    @Says("0 the key of its left child, 1 of its right child (NONE)")
    void childrenThatAreNone() {
        LeaningTrees tree = someNodes();
        about(tree, 0, 50, 20, 20, 10, 80, NONE, 10, NONE, 30, 25, 90, NONE, 25, NONE);
        about(tree, 1, 50, 80, 20, 30, 80, 90, 10, NONE, 30, NONE, 90, NONE, 25, NONE);
    }

    @Says("0 the key of its left child, 1 of its right child (NONE)")
    void theChildIsNotTheNextKey() {
        LeaningTrees tree = calm(50, 10, 20, 30, 90, 80, 70);
        about(tree, 0, 50, 10, 90, 80);
        about(tree, 1, 50, 90, 10, 20);
    }

    @Says("2 its weight, 3 its depth, 4 what is paid into it, 5 whether it is full (1 or 0)")
    void weightDepthPaidFull() {
        LeaningTrees tree = someNodes();
        about(tree, 2, 50, 7, 20, 4, 80, 2, 10, 1, 30, 2, 90, 1, 25, 1);
        about(tree, 3, 50, 0, 20, 1, 80, 1, 10, 2, 30, 2, 90, 2, 25, 3);
        about(tree, 4, 50, 9, 20, 0, 80, 9, 10, 0, 30, 0, 90, 0, 25, 0);
        about(tree, 5, 50, 1, 20, 1, 80, 0, 10, 0, 30, 1, 90, 1, 25, 1);
    }

    @Says("6 the full nodes from it downwards")
    void fullNodesFromANodeDownwards() {
        LeaningTrees tree = someNodes();
        about(tree, 6, 50, 5, 20, 3, 80, 1, 10, 0, 30, 2, 90, 1, 25, 1);
    }

    @Says("7 whether it leans (1 or 0)")
    void whetherItLeansNow() {
        LeaningTrees tree = chain(4);
        about(tree, 7, 1, 0, 2, 0, 3, 0, 4, 0);
        tree.set(LEAN, 70);
        about(tree, 7, 1, 1, 2, 0, 3, 0, 4, 0);
        tree.set(LEAN, 66);
        about(tree, 7, 1, 1, 2, 1, 3, 0, 4, 0);
    }

    @Says("8 how deep it goes from it downwards: the greatest depth there less its own")
    void howDeepItGoes() {
        LeaningTrees tree = someNodes();
        about(tree, 8, 50, 3, 20, 2, 80, 1, 10, 0, 30, 1, 90, 0, 25, 0);
        tree = hollowAt(chain(20), 19, 20);
        about(tree, 8, 1, 19, 2, 18, 10, 10, 19, 1, 20, 0);
    }

    @Says(NODE_ERRORS)
    void whatIsZeroToEight() {
        LeaningTrees tree = calm(5);
        for (int what : new int[] {-1, 9, LEAST_INT, GREATEST_INT}) {
            due("node(5, " + what + ")", tree.node(5, what), BAD_VALUE);
        }
        due("node(5, 0)", tree.node(5, 0), NONE);
        due("node(5, 8)", tree.node(5, 8), 0);
    }

    @Says(NODE_ERRORS)
    void keysOfNodesFullOrHollow() {
        LeaningTrees tree = hollowAt(calm(500, 0, 999), 999);
        for (int key : NO_NUMBERS) {
            due("node(" + key + ", 2)", tree.node(key, 2), BAD_VALUE);
        }
        due("node(0, 2)", tree.node(0, 2), 1);
        due("node(999, 2), hollow,", tree.node(999, 2), 1);
        due("node(998, 2), never there,", tree.node(998, 2), NO_SUCH);
        tree.rebuild(999);
        due("node(999, 2), gone,", tree.node(999, 2), NO_SUCH);
    }

    // ---- Promise 8: count

    @Says("2 the key of the root's node (NONE), 3 the greatest depth (NONE without nodes)")
    void rootAndDepthOfNoNodes() {
        LeaningTrees tree = new LeaningTrees();
        due("count(2)", tree.count(2), NONE);
        due("count(3)", tree.count(3), NONE);
        tree.putIn(0, 0);
        due("count(2)", tree.count(2), 0);
        due("count(3)", tree.count(3), 0);
        tree.putIn(999, 0);
        due("count(3)", tree.count(3), 1);
    }

    @Says("2 the key of the root's node (NONE), 3 the greatest depth (NONE without nodes)")
    void hollowNodesHaveDepthsToo() {
        LeaningTrees tree = hollowAt(calm(50, 20, 10), 50, 10);
        due("count(2), hollow,", tree.count(2), 50);
        due("count(3), of a hollow node,", tree.count(3), 2);
    }

    @Says("0 nodes, 1 keys (full nodes)")
    void nodesAndKeys() {
        LeaningTrees tree = hollowAt(nodes(60), 0, 590);
        due("count(0)", tree.count(0), 60);
        due("count(1)", tree.count(1), 58);
    }

    @Says("5 the funds and 1000000")
    void fundsOnBothSidesOfZero() {
        LeaningTrees tree = chain(2);
        due("count(5)", tree.count(5), 1000000);
        tree.rebuild(1);
        due("count(5): -2", tree.count(5), 999998);
        tree.set(PAY, 9);
        tree.putIn(2, 0);
        tree.rebuild(1);
        due("count(5): 18 - 2 more", tree.count(5), 1000014);
    }

    @Says("6 what is paid into all nodes together, 7 how often something was rebuilt")
    void hollowNodesArePaidAndCountedToo() {
        LeaningTrees tree = calm(50, 20, 80);
        tree.set(PAY, 6);
        tree.remove(20);
        due("count(6)", tree.count(6), 12);
        due("count(7)", tree.count(7), 0);
        tree.rebuild(20);
        due("count(6)", tree.count(6), 6);
        due("count(7), though nothing is there then,", tree.count(7), 1);
        tree.rebuild(80);
        due("count(7), though the same is there then,", tree.count(7), 2);
    }

    @Says("8 the greatest weight that was rebuilt at once (0)")
    void theGreatestWeightNotTheLatest() {
        LeaningTrees tree = chain(4);
        due("count(8)", tree.count(8), 0);
        tree.rebuild(3);
        due("count(8)", tree.count(8), 2);
        tree.rebuild(1);
        due("count(8)", tree.count(8), 4);
        tree.rebuild(1);
        due("count(8): the greatest", tree.count(8), 4);
        tree.remove(4);
        tree.rebuild(2);
        tree.rebuild(2);
        due("count(8): with a hollow node, then without", tree.count(8), 4);
    }

    @Says("9 nodes that lean, 10 to 12 the settings")
    void leaningNodesByTheSettingOfNow() {
        LeaningTrees tree = hollowAt(chain(7), 1, 2);
        int[][] want = {{95, 0}, {86, 0}, {85, 1}, {80, 2}, {75, 3}, {67, 4}, {66, 5}, {55, 5}};
        for (int[] each : want) {
            tree.set(LEAN, each[0]);
            due("count(9) with LEAN " + each[0], tree.count(9), each[1]);
            due("count(10)", tree.count(10), each[0]);
        }
        due("count(11)", tree.count(11), 90);
        due("count(12)", tree.count(12), 0);
    }

    @Says("13 the length of the pad, 14 how many changes can be undone")
    void fromEmptyToFull() {
        LeaningTrees tree = new LeaningTrees();
        due("count(13)", tree.count(13), 0);
        for (int length = 8; length <= 80; length += 8) {
            tree.put(number("12345678"));
            due("count(13)", tree.count(13), length);
        }
        tree.put('9');
        due("count(13)", tree.count(13), 80);
        for (int changes = 0; changes <= 8; changes++) {
            due("count(14)", tree.count(14), Math.min(changes, 6));
            tree.putIn(changes, 0);
        }
    }

    @Says("Returns the number; BAD_VALUE if what is out of range.")
    void whatIsZeroToFourteen() {
        LeaningTrees tree = new LeaningTrees();
        for (int what : new int[] {-1, 15, LEAST_INT, GREATEST_INT}) {
            due("count(" + what + ")", tree.count(what), BAD_VALUE);
        }
        due("count(0)", tree.count(0), 0);
        due("count(14)", tree.count(14), 0);
    }

    // ---- Promise 9: meanDepth

    private void mean(String of, LeaningTrees tree, int depths, int nodes) {
        double mean = (double) depths / nodes;
        due("meanDepth(0) of " + of, tree.meanDepth(0), Double.doubleToLongBits(mean));
        due("meanDepth(1) of " + of, tree.meanDepth(1), Double.doubleToLongBits(mean % 1.0));
    }

    @Says("Returns the bits (0 without nodes); -2 if what is neither 0 nor 1.")
    void noNodesHaveNoMean() {
        LeaningTrees tree = new LeaningTrees();
        due("meanDepth(0)", tree.meanDepth(0), 0);
        due("meanDepth(1)", tree.meanDepth(1), 0);
        tree.putIn(5, 5);
        mean("the root alone", tree, 0, 1);
        tree.remove(5);
        due("meanDepth(0) of a tree that is empty again", tree.meanDepth(0), 0);
        due("meanDepth(1)", tree.meanDepth(1), 0);
    }

    @Says("Returns the bits (0 without nodes); -2 if what is neither 0 nor 1.")
    void whatIsZeroOrOne() {
        LeaningTrees tree = new LeaningTrees();
        for (int times = 0; times < 2; times++) {
            for (int what : new int[] {-1, 2, LEAST_INT, GREATEST_INT}) {
                due("meanDepth(" + what + ")", tree.meanDepth(what), -2);
            }
            tree.putIn(5, 5);
        }
    }

    @Says(MEAN)
    void hollowNodesHaveDepthsInTheMean() {
        LeaningTrees tree = hollowAt(calm(50, 20, 80, 10), 10, 50);
        mean("4 nodes, 2 of them hollow", tree, 4, 4);
        tree.rebuild(20);
        mean("3 nodes", tree, 2, 3);
    }

    @Says(MEAN)
    void meansOfChains() {
        for (int length = 1; length <= 20; length++) {
            mean("a chain of " + length, chain(length), length * (length - 1) / 2, length);
        }
    }

    @Says(MEAN)
    void meansThatHaveNoEnd() {
        for (int length = 3; length <= 60; length++) {
            LeaningTrees tree = nodes(length);
            tree.rebuild(tree.count(2));
            int depths = 0;
            for (int place = 0; place < length; place++) {
                depths += tree.node(10 * place, 3);
            }
            mean(length + " laid evenly", tree, depths, length);
        }
    }

    @Says(LEFT_OVER)
    void nothingIsLeftOverOfAWholeMean() {
        for (int length = 1; length <= 19; length += 2) {
            LeaningTrees tree = chain(length);
            due("meanDepth(0) of " + length, tree.meanDepth(0), Double.doubleToLongBits((length - 1) / 2));
            due("meanDepth(1) of " + length, tree.meanDepth(1), 0);
        }
    }

    @Says(LEFT_OVER)
    void allOfAMeanBelowOneIsLeftOver() {
        LeaningTrees tree = chain(2);
        due("meanDepth(0)", tree.meanDepth(0), Double.doubleToLongBits(0.5));
        due("meanDepth(1)", tree.meanDepth(1), Double.doubleToLongBits(0.5));
        mean("three laid evenly", calm(50, 20, 80), 2, 3);
    }

    @Says(LEFT_OVER)
    void aMeanJustAboveAWholeNumber() {
        mean("7 nodes", calm(50, 20, 80, 10, 30, 90, 70), 10, 7);
        mean("6 nodes", calm(50, 20, 80, 10, 30, 90), 8, 6);
        mean("5 nodes", calm(50, 20, 80, 10, 90), 6, 5);
    }

    // ---- Promise 10: leaning

    private void share(LeaningTrees tree, int key, int child, int own) {
        due("leaning(" + key + ")", tree.leaning(key), Float.floatToIntBits((float) child / (float) own));
    }

    @Says(SHARE)
    void noChildrenWeighNothing() {
        due("leaning(5) of the root alone", calm(5).leaning(5), 0);
        LeaningTrees tree = hollowAt(calm(50, 20, 80), 80);
        due("leaning(20)", tree.leaning(20), 0);
        due("leaning(80), hollow,", tree.leaning(80), 0);
    }

    @Says(SHARE)
    void theHeavierChildOnEitherSide() {
        share(calm(50, 20, 80, 10), 50, 2, 4);
        share(calm(50, 20, 80, 90), 50, 2, 4);
        share(calm(50, 20, 80), 50, 1, 3);
        share(calm(50, 20), 50, 1, 2);
        share(calm(50, 80), 50, 1, 2);
    }

    @Says(SHARE)
    void hollowNodesWeighToo() {
        LeaningTrees tree = hollowAt(calm(50, 20, 80, 90, 99), 50, 90, 99);
        share(tree, 50, 3, 5);
        share(tree, 80, 2, 3);
        share(tree, 90, 1, 2);
    }

    @Says(SHARE)
    void sharesOfAllWeights() {
        for (int length = 1; length <= 20; length++) {
            share(chain(length), 1, length - 1, length);
        }
        for (int length = 21; length <= 60; length++) {
            LeaningTrees tree = nodes(length);
            int root = tree.count(2);
            tree.rebuild(root);
            share(tree, 10 * ((length - 1) / 2), length / 2, length);
        }
    }

    @Says("Returns the bits; BAD_VALUE if key is not 0 to 999; NO_SUCH if no node, full or hollow, has this key.")
    void nodesThatHaveAShare() {
        LeaningTrees tree = hollowAt(calm(0, 999), 999);
        for (int key : NO_NUMBERS) {
            due("leaning(" + key + ")", tree.leaning(key), BAD_VALUE);
        }
        due("leaning(0)", tree.leaning(0), Float.floatToIntBits(0.5f));
        due("leaning(999), hollow,", tree.leaning(999), 0);
        due("leaning(1), never there,", tree.leaning(1), NO_SUCH);
        tree.rebuild(999);
        due("leaning(999), gone,", tree.leaning(999), NO_SUCH);
    }
}
