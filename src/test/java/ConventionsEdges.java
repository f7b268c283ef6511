/** CONVENTIONS, and how long an object is used. */
final class ConventionsEdges extends Edges {
    private static final String FIRST_ERROR =
        "it names its errors in the order in which they are checked, and the first one that applies is returned";
    private static final String CHANGES_NOTHING = "A call that returns an error changes nothing.";
    private static final String NONE_IS_LAST = "NONE (-6) is not an error; it is returned only if no error applies.";
    private static final String QUESTIONS = "questions; nothing changes";

    @Says(FIRST_ERROR)
    void badValueAheadOfTooManyNodes() {
        LeaningTrees tree = nodes(60);
        due("putIn(1000, 0)", tree.putIn(1000, 0), BAD_VALUE);
        due("putIn(5, 1000)", tree.putIn(5, 1000), BAD_VALUE);
        due("wouldCost(1000)", tree.wouldCost(1000), BAD_VALUE);
        due("wouldCost(-1)", tree.wouldCost(-1), BAD_VALUE);
        due("worst(2)", tree.worst(2), BAD_VALUE);
        due("worst(-1)", tree.worst(-1), BAD_VALUE);
    }

    @Says(FIRST_ERROR)
    void badValueAheadOfTooManyCharacters() {
        LeaningTrees tree = padOf(FULL_PAD);
        due("count(13)", tree.count(13), 80);
        due("put(0)", tree.put(0), BAD_VALUE);
        due("put(32)", tree.put(32), BAD_VALUE);
        due("put(127)", tree.put(127), BAD_VALUE);
        due("put(a gap)", tree.put(0x310031L), BAD_VALUE);
    }

    @Says(FIRST_ERROR)
    void badValueAheadOfNoSuch() {
        LeaningTrees tree = new LeaningTrees();
        due("remove(1000)", tree.remove(1000), BAD_VALUE);
        due("rebuild(1000)", tree.rebuild(1000), BAD_VALUE);
        due("leaning(1000)", tree.leaning(1000), BAD_VALUE);
        due("node(1000, 0)", tree.node(1000, 0), BAD_VALUE);
        due("node(5, 9)", tree.node(5, 9), BAD_VALUE);
    }

    @Says(FIRST_ERROR)
    void badValueAheadOfNotPossible() {
        LeaningTrees tree = new LeaningTrees();
        due("restore(-1)", tree.restore(-1), BAD_VALUE);
        due("restore(2)", tree.restore(2), BAD_VALUE);
    }

    @Says(CHANGES_NOTHING)
    void aRefusedSetChangesNothing() {
        int[][] wrong = {{-1, 60}, {3, 60}, {LEAN, 54}, {LEAN, 96}, {HOLLOW, 9}, {HOLLOW, 91}, {PAY, -1}, {PAY, 10}};
        for (int[] call : wrong) {
            changesNothing(Edges::layBusy, "set(" + call[0] + ", " + call[1] + ")",
                tree -> tree.set(call[0], call[1]), BAD_VALUE);
        }
    }

    @Says(CHANGES_NOTHING)
    void aRefusedPutInChangesNothing() {
        int[][] wrong = {{-1, 0}, {1000, 0}, {10, -1}, {10, 1000}, {15, -1}, {15, 1000}};
        for (int[] call : wrong) {
            changesNothing(Edges::layBusy, "putIn(" + call[0] + ", " + call[1] + ")",
                tree -> tree.putIn(call[0], call[1]), BAD_VALUE);
        }
        changesNothing(tree -> layNodes(tree, 60), "putIn(5, 5)", tree -> tree.putIn(5, 5), TOO_MANY);
    }

    @Says(CHANGES_NOTHING)
    void aRefusedRemoveChangesNothing() {
        changesNothing(Edges::layBusy, "remove(-1)", tree -> tree.remove(-1), BAD_VALUE);
        changesNothing(Edges::layBusy, "remove(1000)", tree -> tree.remove(1000), BAD_VALUE);
        changesNothing(Edges::layBusy, "remove(15), no node,", tree -> tree.remove(15), NO_SUCH);
        changesNothing(Edges::layBusy, "remove(40), hollow,", tree -> tree.remove(40), NO_SUCH);
    }

    @Says(CHANGES_NOTHING)
    void aRefusedRebuildChangesNothing() {
        changesNothing(Edges::layBusy, "rebuild(-1)", tree -> tree.rebuild(-1), BAD_VALUE);
        changesNothing(Edges::layBusy, "rebuild(1000)", tree -> tree.rebuild(1000), BAD_VALUE);
        changesNothing(Edges::layBusy, "rebuild(15)", tree -> tree.rebuild(15), NO_SUCH);
    }

    @Says(CHANGES_NOTHING)
    void aRefusedPutChangesNothing() {
        changesNothing(Edges::layBusy, "put(0)", tree -> tree.put(0), BAD_VALUE);
        changesNothing(Edges::layBusy, "put(a wrong last one)", tree -> tree.put(0x3b2b20L), BAD_VALUE);
        changesNothing(Edges::layBusy, "put(a wrong first one)", tree -> tree.put(0x7f3b2b31L), BAD_VALUE);
        changesNothing(Edges::layBusy, "put(a gap)", tree -> tree.put(0x3b002b31L), BAD_VALUE);
        changesNothing(tree -> write(tree, FULL_PAD), "put(;)", tree -> tree.put(';'), TOO_MANY);
        changesNothing(tree -> write(tree, FULL_PAD.substring(0, 74)), "put(;+9;+8;)",
            tree -> tree.put(number(";+9;+8;")), TOO_MANY);
    }

    @Says(CHANGES_NOTHING)
    void aRefusedCarryOutChangesNothing() {
        Calls before = tree -> {
            layBusy(tree);
            write(tree, ";+");
        };
        changesNothing(before, "carryOut()", LeaningTrees::carryOut, BAD_TEXT);
        LeaningTrees tree = new LeaningTrees();
        write(tree, "+1;+2;+");
        due("carryOut() too early", tree.carryOut(), BAD_TEXT);
        tree.put('3');
        due("carryOut() of the same text and one more", tree.carryOut(), 3);
    }

    @Says(CHANGES_NOTHING)
    void aRefusedUndoChangesNothing() {
        Calls before = tree -> {
            layBusy(tree);
            for (int times = 0; times < 4; times++) {
                tree.undo();
            }
        };
        changesNothing(before, "undo()", LeaningTrees::undo, NOT_POSSIBLE);
    }

    @Says(CHANGES_NOTHING)
    void aRefusedSaveChangesNothing() {
        changesNothing(Edges::layBusy, "save(-1)", tree -> tree.save(-1), BAD_VALUE);
        changesNothing(Edges::layBusy, "save(2)", tree -> tree.save(2), BAD_VALUE);
    }

    @Says(CHANGES_NOTHING)
    void aRefusedRestoreChangesNothing() {
        changesNothing(Edges::layBusy, "restore(-1)", tree -> tree.restore(-1), BAD_VALUE);
        changesNothing(Edges::layBusy, "restore(2)", tree -> tree.restore(2), BAD_VALUE);
        Calls before = tree -> {
            layNodes(tree, 3);
            tree.save(0);
            tree.putIn(5, 5);
        };
        changesNothing(before, "restore(1)", tree -> tree.restore(1), NOT_POSSIBLE);
    }

    @Says(CHANGES_NOTHING)
    void aRefusedChangeDropsNoState() {
        Calls before = tree -> layNodes(tree, 7);
        changesNothing(before, "set(3, 0)", tree -> tree.set(3, 0), BAD_VALUE);
        changesNothing(before, "putIn(1000, 0)", tree -> tree.putIn(1000, 0), BAD_VALUE);
        changesNothing(before, "remove(5)", tree -> tree.remove(5), NO_SUCH);
        changesNothing(before, "rebuild(5)", tree -> tree.rebuild(5), NO_SUCH);
        changesNothing(before, "carryOut()", LeaningTrees::carryOut, BAD_TEXT);
        changesNothing(before, "restore(0)", tree -> tree.restore(0), NOT_POSSIBLE);
    }

    @Says(CHANGES_NOTHING)
    void aRefusedQuestionChangesNothing() {
        changesNothing(Edges::layBusy, "value(1000)", tree -> tree.value(1000), BAD_VALUE);
        changesNothing(Edges::layBusy, "node(15, 0)", tree -> tree.node(15, 0), NO_SUCH);
        changesNothing(Edges::layBusy, "node(10, 9)", tree -> tree.node(10, 9), BAD_VALUE);
        changesNothing(Edges::layBusy, "count(15)", tree -> tree.count(15), BAD_VALUE);
        changesNothing(Edges::layBusy, "meanDepth(2)", tree -> tree.meanDepth(2), BAD_VALUE);
        changesNothing(Edges::layBusy, "leaning(15)", tree -> tree.leaning(15), NO_SUCH);
        changesNothing(Edges::layBusy, "rank(1000)", tree -> tree.rank(1000), BAD_VALUE);
        changesNothing(Edges::layBusy, "kth(3)", tree -> tree.kth(3), NO_SUCH);
        changesNothing(Edges::layBusy, "neighbour(10, 2)", tree -> tree.neighbour(10, 2), BAD_VALUE);
        changesNothing(Edges::layBusy, "sum(5, 4)", tree -> tree.sum(5, 4), BAD_VALUE);
        changesNothing(Edges::layBusy, "wouldCost(1000)", tree -> tree.wouldCost(1000), BAD_VALUE);
        changesNothing(Edges::layBusy, "worst(2)", tree -> tree.worst(2), BAD_VALUE);
        changesNothing(tree -> layNodes(tree, 60), "wouldCost(5)", tree -> tree.wouldCost(5), TOO_MANY);
        changesNothing(tree -> layNodes(tree, 60), "worst(0)", tree -> tree.worst(0), TOO_MANY);
    }

    @Says(QUESTIONS)
    void anAnsweredQuestionChangesNothing() {
        changesNothing(Edges::layBusy, "rank(40)", tree -> tree.rank(40), 3);
        changesNothing(Edges::layBusy, "kth(2)", tree -> tree.kth(2), 30);
        changesNothing(Edges::layBusy, "neighbour(30, 1)", tree -> tree.neighbour(30, 1), NONE);
        changesNothing(Edges::layBusy, "sum(0, 999)", tree -> tree.sum(0, 999), 6);
        changesNothing(Edges::layBusy, "wouldCost(50)", tree -> tree.wouldCost(50), 0);
        Calls leaning = tree -> {
            layCalm(tree, 1, 2, 3, 4, 5);
            tree.set(LEAN, 70);
            tree.set(PAY, 3);
        };
        changesNothing(leaning, "wouldCost(6)", tree -> tree.wouldCost(6), 6);
        changesNothing(leaning, "worst(0)", tree -> tree.worst(0), 6);
        changesNothing(leaning, "worst(1)", tree -> tree.worst(1), 6);
    }

    @Says(NONE_IS_LAST)
    void noneOnlyWithoutError() {
        LeaningTrees tree = new LeaningTrees();
        due("value(5)", tree.value(5), NONE);
        due("neighbour(5, 0)", tree.neighbour(5, 0), NONE);
        due("count(2)", tree.count(2), NONE);
        for (int key : NO_NUMBERS) {
            due("value(" + key + ")", tree.value(key), BAD_VALUE);
            due("neighbour(" + key + ", 1)", tree.neighbour(key, 1), BAD_VALUE);
        }
        due("neighbour(5, 2)", tree.neighbour(5, 2), BAD_VALUE);
        due("node(5, 0): no node at all, not one without a child", tree.node(5, 0), NO_SUCH);
        tree.putIn(5, 5);
        due("node(5, 0)", tree.node(5, 0), NONE);
        due("node(5, -1)", tree.node(5, -1), BAD_VALUE);
    }

    @Says("Everything is numbered from 0.")
    void numbersBeginAtZero() {
        LeaningTrees tree = nodes(3);
        due("kth(0)", tree.kth(0), 0);
        due("kth(2)", tree.kth(2), 20);
        due("kth(3)", tree.kth(3), NO_SUCH);
        due("node(0, 3)", tree.node(0, 3), 0);
        due("save(0)", tree.save(0), 3);
        due("set(0, 60)", tree.set(0, 60), 70);
        tree.put('x');
        due("fault()", tree.fault(), 0);
    }

    @Says("Divisions are rounded down.")
    void divisionsAreRoundedDown() {
        for (int length = 2; length <= 12; length += 2) {
            LeaningTrees tree = chain(length);
            tree.rebuild(1);
            due("count(2): of an even number, " + length + ", the lower middle", tree.count(2), length / 2);
        }
    }

    @Says("An object is used for at most 512 calls after it has been made")
    void allOf512CallsAreAnswered() {
        LeaningTrees tree = new LeaningTrees();
        tree.set(PAY, 9);
        for (int call = 2; call <= 510; call++) {
            due("putIn(0, ..), call " + call, tree.putIn(0, call), 0);
        }
        due("value(0), call 511,", tree.value(0), 510);
        due("node(0, 4), call 512,", tree.node(0, 4), 509 * 9);
    }

    @Says("An object is used for at most 512 calls after it has been made")
    void all512CallsCanRebuild() {
        LeaningTrees tree = nodes(60);
        int work = tree.count(4);
        int root = tree.count(2);
        for (int call = 63; call < 512; call++) {
            due("rebuild(root), call " + call, tree.rebuild(root), 60);
            root = 290;
        }
        due("count(4), call 512,", tree.count(4), work + 449 * 60);
    }
}
