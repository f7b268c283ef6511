/** Promises 11 to 16: rank, kth, neighbour, sum, wouldCost, worst. */
final class QuestionsEdges extends Edges {
    private static final String RANK = "Counts the keys of the tree that are less than another one.";
    private static final String NEIGHBOUR =
        "0 the greatest key that is less, 1 the least one that is greater";
    private static final String SUM = "Returns the sum of the values of the keys between two ones (with both).";
    private static final String WOULD_COST = "Tells how many nodes would be rebuilt by putIn() of a key.";
    private static final String WORST = "Finds the key, of all from 0 to 999, by which putIn() would rebuild the most"
        + " nodes, of several the lowest one (the key 0 if none would).";

    // ---- Promise 11: rank

    @Says(RANK)
    void aKeyIsNotLessThanItself() {
        LeaningTrees tree = calm(500, 499, 501);
        due("rank(499)", tree.rank(499), 0);
        due("rank(500)", tree.rank(500), 1);
        due("rank(501)", tree.rank(501), 2);
        due("rank(502)", tree.rank(502), 3);
    }

    @Says(RANK)
    void ranksAtTheEnds() {
        LeaningTrees tree = calm(500, 0, 999);
        due("rank(0)", tree.rank(0), 0);
        due("rank(1)", tree.rank(1), 1);
        due("rank(999)", tree.rank(999), 2);
        due("rank(999) of no keys", new LeaningTrees().rank(999), 0);
        due("rank(999) of sixty", nodes(60).rank(999), 60);
    }

    @Says(RANK)
    void hollowNodesHaveNoRank() {
        LeaningTrees tree = hollowAt(calm(50, 20, 80, 10), 10, 50);
        due("rank(10), hollow,", tree.rank(10), 0);
        due("rank(20)", tree.rank(20), 0);
        due("rank(50), hollow,", tree.rank(50), 1);
        due("rank(80)", tree.rank(80), 1);
        due("rank(81)", tree.rank(81), 2);
    }

    @Says("Returns how many; BAD_VALUE if key is out of range.")
    void ranksOfKeysFrom0To999() {
        LeaningTrees tree = calm(500);
        for (int key : NO_NUMBERS) {
            due("rank(" + key + ")", tree.rank(key), BAD_VALUE);
        }
    }

    // ---- Promise 12: kth

    @Says("Returns the key; NO_SUCH if there is none.")
    void fromTheLeastKeyToTheLast() {
        LeaningTrees tree = hollowAt(calm(50, 0, 999, 20), 20);
        due("kth(-1)", tree.kth(-1), NO_SUCH);
        due("kth(0)", tree.kth(0), 0);
        due("kth(1)", tree.kth(1), 50);
        due("kth(2)", tree.kth(2), 999);
        due("kth(3): a hollow node is none", tree.kth(3), NO_SUCH);
        due("kth(MIN)", tree.kth(LEAST_INT), NO_SUCH);
        due("kth(MAX)", tree.kth(GREATEST_INT), NO_SUCH);
        due("kth(0) of no keys", new LeaningTrees().kth(0), NO_SUCH);
    }

    @Says("Returns the key; NO_SUCH if there is none.")
    void theLastOfSixty() {
        LeaningTrees tree = nodes(60);
        due("kth(59)", tree.kth(59), 590);
        due("kth(60)", tree.kth(60), NO_SUCH);
        tree.remove(0);
        due("kth(0) behind a hollow node", tree.kth(0), 10);
        due("kth(58)", tree.kth(58), 590);
        due("kth(59)", tree.kth(59), NO_SUCH);
    }

    // ---- Promise 13: neighbour

    private void neighbours(LeaningTrees tree, int key, int less, int greater) {
        due("neighbour(" + key + ", 0)", tree.neighbour(key, 0), less);
        due("neighbour(" + key + ", 1)", tree.neighbour(key, 1), greater);
    }

    @Says(NEIGHBOUR)
    void aKeyIsNoNeighbourOfItself() {
        LeaningTrees tree = calm(500, 499, 501);
        neighbours(tree, 500, 499, 501);
        neighbours(tree, 499, NONE, 500);
        neighbours(tree, 501, 500, NONE);
    }

    @Says("0 to 999 (it need not be a key of the tree)")
    void neighboursOfWhatIsNoKey() {
        LeaningTrees tree = hollowAt(calm(500, 490, 510, 505), 505);
        neighbours(tree, 495, 490, 500);
        neighbours(tree, 489, NONE, 490);
        neighbours(tree, 511, 510, NONE);
        neighbours(tree, 505, 500, 510);
        neighbours(tree, 0, NONE, 490);
        neighbours(tree, 999, 510, NONE);
    }

    @Says(NEIGHBOUR)
    void neighboursAtTheEnds() {
        LeaningTrees tree = calm(0, 999);
        neighbours(tree, 0, NONE, 999);
        neighbours(tree, 999, 0, NONE);
        neighbours(tree, 500, 0, 999);
    }

    @Says(NEIGHBOUR)
    void hollowNodesAreNoNeighbours() {
        LeaningTrees tree = hollowAt(calm(50, 20, 80, 10, 90), 20, 80);
        neighbours(tree, 50, 10, 90);
        neighbours(tree, 20, 10, 50);
        neighbours(tree, 80, 50, 90);
        tree = hollowAt(calm(50, 20, 80), 20, 80);
        neighbours(tree, 50, NONE, NONE);
    }

    @Says("Returns the key; BAD_VALUE if an argument is out of range; NONE if there is none.")
    void whichNeighboursThereAre() {
        LeaningTrees tree = calm(500);
        for (int key : NO_NUMBERS) {
            due("neighbour(" + key + ", 0)", tree.neighbour(key, 0), BAD_VALUE);
            due("neighbour(" + key + ", 1)", tree.neighbour(key, 1), BAD_VALUE);
        }
        for (int what : new int[] {-1, 2, LEAST_INT, GREATEST_INT}) {
            due("neighbour(500, " + what + ")", tree.neighbour(500, what), BAD_VALUE);
        }
        neighbours(tree, 500, NONE, NONE);
        neighbours(new LeaningTrees(), 500, NONE, NONE);
    }

    // ---- Promise 14: sum

    @Says(SUM)
    void bothEndsAreInTheSum() {
        LeaningTrees tree = calm(500, 400, 600);
        due("sum(400, 600)", tree.sum(400, 600), 1500);
        due("sum(401, 600)", tree.sum(401, 600), 1100);
        due("sum(400, 599)", tree.sum(400, 599), 900);
        due("sum(401, 599)", tree.sum(401, 599), 500);
        due("sum(501, 599)", tree.sum(501, 599), 0);
    }

    @Says(SUM)
    void hollowNodesAreNotInTheSum() {
        LeaningTrees tree = hollowAt(calm(500, 400, 600), 400, 500);
        due("sum(0, 999)", tree.sum(0, 999), 600);
        due("sum(400, 500)", tree.sum(400, 500), 0);
    }

    @Says(SUM)
    void theGreatestSum() {
        LeaningTrees tree = new LeaningTrees();
        for (int key = 940; key <= 999; key++) {
            tree.putIn(key, 999);
        }
        due("sum(0, 999)", tree.sum(0, 999), 60 * 999);
        due("sum(940, 999)", tree.sum(940, 999), 60 * 999);
        due("sum(0, 939)", tree.sum(0, 939), 0);
    }

    @Says("`high`: low to 999")
    void highMayBeLowButNotLess() {
        LeaningTrees tree = calm(500, 0, 999);
        due("sum(500, 500)", tree.sum(500, 500), 500);
        due("sum(500, 499)", tree.sum(500, 499), BAD_VALUE);
        due("sum(999, 0)", tree.sum(999, 0), BAD_VALUE);
        due("sum(0, 0)", tree.sum(0, 0), 0);
        due("sum(999, 999)", tree.sum(999, 999), 999);
        due("sum(1, 0) of no keys", new LeaningTrees().sum(1, 0), BAD_VALUE);
    }

    @Says("Returns the sum; BAD_VALUE if an argument is out of range.")
    void spansFrom0To999() {
        LeaningTrees tree = calm(500, 0, 999);
        for (int wrong : NO_NUMBERS) {
            due("sum(" + wrong + ", 999)", tree.sum(wrong, 999), BAD_VALUE);
            due("sum(0, " + wrong + ")", tree.sum(0, wrong), BAD_VALUE);
            due("sum(" + wrong + ", " + wrong + ")", tree.sum(wrong, wrong), BAD_VALUE);
        }
        due("sum(0, 999)", tree.sum(0, 999), 1499);
    }

    // ---- Promise 15: wouldCost

    @Says(WOULD_COST)
    void theNewNodeIsInTheCost() {
        LeaningTrees tree = chain(3);
        tree.set(LEAN, 74);
        due("wouldCost(4): 300 is above 74 * 4", tree.wouldCost(4), 4);
        due("wouldCost(0)", tree.wouldCost(0), 0);
        tree.set(LEAN, 75);
        due("wouldCost(4): 300 is not above 75 * 4", tree.wouldCost(4), 0);
        due("putIn(4, 0)", tree.putIn(4, 0), 0);
        due("wouldCost(5): 400 is above 75 * 5", tree.wouldCost(5), 5);
        due("putIn(5, 0)", tree.putIn(5, 0), 5);
    }

    @Says(WOULD_COST)
    void aKeyOrAHollowNodeCostsNothing() {
        LeaningTrees tree = hollowAt(chain(7), 7);
        tree.set(LEAN, 55);
        due("wouldCost(6), a key,", tree.wouldCost(6), 0);
        due("wouldCost(7), hollow,", tree.wouldCost(7), 0);
        due("wouldCost(8)", tree.wouldCost(8), 8);
        due("wouldCost(0)", tree.wouldCost(0), 8);
    }

    @Says(WOULD_COST)
    void aPartBelowTheRootAlone() {
        LeaningTrees tree = calm(50, 10, 20, 30, 40, 60, 70, 80, 90);
        tree.set(LEAN, 60);
        due("wouldCost(95)", tree.wouldCost(95), 5);
        due("wouldCost(45)", tree.wouldCost(45), 5);
        due("wouldCost(55): 300 is not above 60 * 5", tree.wouldCost(55), 0);
        due("wouldCost(65): 400 is above 60 * 5", tree.wouldCost(65), 5);
        due("count(7)", tree.count(7), 0);
    }

    @Says(WOULD_COST)
    void eachCostIsAsForetold() {
        for (int key = 0; key <= 80; key += 5) {
            LeaningTrees tree = hollowAt(calm(40, 10, 20, 30, 60, 50, 70), 20);
            tree.set(LEAN, 60);
            int cost = tree.wouldCost(key);
            due("wouldCost(" + key + "), as putIn() told,", cost, tree.putIn(key, 0));
        }
    }

    @Says("Returns as for putIn(); BAD_VALUE if key is not 0 to 999; TOO_MANY as for putIn().")
    void costsOfKeysFrom0To999() {
        LeaningTrees tree = new LeaningTrees();
        for (int key : NO_NUMBERS) {
            due("wouldCost(" + key + ")", tree.wouldCost(key), BAD_VALUE);
        }
        due("wouldCost(0)", tree.wouldCost(0), 0);
        due("wouldCost(999)", tree.wouldCost(999), 0);
    }

    @Says("Returns as for putIn(); BAD_VALUE if key is not 0 to 999; TOO_MANY as for putIn().")
    void costsInSixtyNodes() {
        LeaningTrees tree = nodes(59);
        due("wouldCost(999) in 59 is no error", tree.wouldCost(999) >= 0 ? 1 : 0, 1);
        tree.putIn(590, 0);
        due("wouldCost(999) in 60", tree.wouldCost(999), TOO_MANY);
        due("wouldCost(5)", tree.wouldCost(5), TOO_MANY);
        due("wouldCost(0), a key,", tree.wouldCost(0), 0);
        tree.remove(590);
        due("wouldCost(590), hollow,", tree.wouldCost(590), 0);
        due("wouldCost(595)", tree.wouldCost(595), TOO_MANY);
    }

    // ---- Promise 16: worst

    private void worst(LeaningTrees tree, int key, int nodes) {
        due("worst(0)", tree.worst(0), key);
        due("worst(1)", tree.worst(1), nodes);
    }

    @Says(WORST)
    void theKeyZeroIfNoneWould() {
        worst(new LeaningTrees(), 0, 0);
        worst(chain(7), 0, 0);
        worst(hollowAt(calm(50, 20, 80), 20), 0, 0);
        worst(calm(0, 999), 0, 0);
    }

    @Says(WORST)
    void ofSeveralTheLowest() {
        LeaningTrees tree = chain(7);
        tree.set(LEAN, 75);
        worst(tree, 8, 8);
        tree.set(LEAN, 55);
        worst(tree, 0, 8);
    }

    @Says(WORST)
    void theFirstKeyOfAGap() {
        LeaningTrees tree = calm(100, 900, 500, 700);
        tree.set(LEAN, 75);
        worst(tree, 101, 5);
        tree = calm(900, 700, 500);
        tree.set(LEAN, 70);
        worst(tree, 0, 4);
    }

    @Says(WORST)
    void theGreatestKeyOfAll() {
        LeaningTrees tree = calm(995, 996, 997, 998);
        tree.set(LEAN, 75);
        worst(tree, 999, 5);
    }

    @Says(WORST)
    void keysThatAreTakenCostNothing() {
        LeaningTrees tree = hollowAt(calm(996, 997, 998, 999), 999);
        tree.set(LEAN, 75);
        worst(tree, 0, 0);
        tree.set(LEAN, 70);
        due("node(996, 7)", tree.node(996, 7), 1);
        worst(tree, 0, 0);
        tree.set(LEAN, 55);
        worst(tree, 0, 5);
        tree = calm(0, 1, 4, 999);
        tree.set(LEAN, 75);
        worst(tree, 2, 5);
    }

    @Says(WORST)
    void theMostNodesNotTheFirst() {
        LeaningTrees tree = calm(500, 100, 200, 300, 600, 700, 800, 900);
        tree.set(LEAN, 70);
        due("wouldCost(301)", tree.wouldCost(301), 4);
        due("wouldCost(901)", tree.wouldCost(901), 5);
        worst(tree, 601, 5);
    }

    @Says("Returns the number; BAD_VALUE if what is neither 0 nor 1; TOO_MANY if there are 60 nodes.")
    void worstIsAskedWithZeroOrOne() {
        LeaningTrees tree = chain(3);
        for (int what : new int[] {-1, 2, LEAST_INT, GREATEST_INT}) {
            due("worst(" + what + ")", tree.worst(what), BAD_VALUE);
        }
    }

    @Says("Returns the number; BAD_VALUE if what is neither 0 nor 1; TOO_MANY if there are 60 nodes.")
    void worstOfSixtyNodes() {
        LeaningTrees tree = nodes(59);
        due("worst(0) of 59 is no error", tree.worst(0) >= 0 ? 1 : 0, 1);
        due("worst(1) of 59 is no error", tree.worst(1) >= 0 ? 1 : 0, 1);
        tree.putIn(590, 0);
        worst(tree, TOO_MANY, TOO_MANY);
        tree.remove(590);
        due("count(0)", tree.count(0), 60);
        worst(tree, TOO_MANY, TOO_MANY);
        tree.rebuild(tree.count(2));
        due("count(0)", tree.count(0), 59);
        due("worst(0) of 59 again is no error", tree.worst(0) >= 0 ? 1 : 0, 1);
    }
}
