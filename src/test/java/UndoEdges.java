/** Promises 21 to 23: undo, save, restore. */
final class UndoEdges extends Edges {
    private static final String UNDOES = "Undoes the latest change: everything except the pad, the slots and the"
        + " history is as it was before it.";
    private static final String RECORDS = "each method that is a change, and returns no error, records the state"
        + " before it (also if nothing is different then)";
    private static final String SIX = "A history of at most 6 states is kept";
    private static final String DROPPED = "when one more is recorded, the oldest one is dropped";
    private static final String SAVES = "Saves everything except the pad, the history and the slots in a slot, and"
        + " overwrites what was saved there.";
    private static final String RESTORES = "Restores what was saved last in a slot, which keeps it.";
    private static final String RESTORE_ERRORS = "Returns how many keys there are then; BAD_VALUE if there is no such"
        + " slot; NOT_POSSIBLE if nothing was saved in it.";

    /** As layBusy(), with an empty pad, which carryOut() would leave, too. */
    private static void layBusyWithoutPad(LeaningTrees tree) {
        layBusy(tree);
        tree.wipe();
    }

    // ---- Promise 21: undo

    private void undone(String name, Calls before, Calls change) {
        alike("after " + name + " and undo()", before, tree -> {
            before.on(tree);
            change.on(tree);
            tree.undo();
        });
    }

    @Says(UNDOES)
    void settingsComeBack() {
        undone("set(LEAN)", Edges::layBusy, tree -> tree.set(LEAN, 55));
        undone("set(HOLLOW)", Edges::layBusy, tree -> tree.set(HOLLOW, 10));
        undone("set(PAY)", Edges::layBusy, tree -> tree.set(PAY, 9));
    }

    @Says(UNDOES)
    void whatPutInDidComesBack() {
        undone("putIn() of a new key", Edges::layBusy, tree -> tree.putIn(15, 5));
        undone("putIn() of a key", Edges::layBusy, tree -> tree.putIn(10, 5));
        undone("putIn() of a hollow node's key", Edges::layBusy, tree -> tree.putIn(40, 5));
        Calls leaning = tree -> {
            tree.putIn(1, 1);
            tree.putIn(2, 2);
            tree.putIn(3, 3);
        };
        undone("putIn() that rebuilds", leaning, tree -> tree.putIn(4, 4));
        undone("putIn() of the first key", tree -> tree.save(0), tree -> tree.putIn(4, 4));
    }

    @Says(UNDOES)
    void whatRemoveDidComesBack() {
        undone("remove()", Edges::layBusy, tree -> tree.remove(10));
        Calls hollow = tree -> {
            tree.putIn(50, 5);
            tree.putIn(20, 2);
            tree.putIn(80, 8);
            tree.remove(20);
        };
        undone("remove() that rebuilds", hollow, tree -> tree.remove(50));
        undone("remove() of the last key", tree -> tree.putIn(4, 4), tree -> tree.remove(4));
    }

    @Says(UNDOES)
    void whatRebuildDidComesBack() {
        undone("rebuild()", Edges::layBusy, tree -> tree.rebuild(20));
        undone("rebuild() of a hollow leaf", Edges::layBusy, tree -> tree.rebuild(40));
    }

    @Says(UNDOES)
    void whatCarryOutDidComesBackButNotThePad() {
        undone("carryOut()", UndoEdges::layBusyWithoutPad, tree -> {
            write(tree, "+1;+2;-10;!20;+40;-3;+9");
            tree.carryOut();
        });
        LeaningTrees tree = padOf("+1;+2");
        tree.carryOut();
        tree.undo();
        due("count(13): the pad stays empty", tree.count(13), 0);
        due("carryOut()", tree.carryOut(), BAD_TEXT);
    }

    @Says(UNDOES)
    void whatRestoreDidComesBack() {
        undone("restore(0)", Edges::layBusy, tree -> tree.restore(0));
        undone("restore(1)", Edges::layBusy, tree -> tree.restore(1));
    }

    @Says(UNDOES)
    void thePadIsNotUndone() {
        LeaningTrees tree = new LeaningTrees();
        tree.putIn(1, 1);
        write(tree, "+5");
        due("undo()", tree.undo(), 0);
        due("count(13)", tree.count(13), 2);
        tree.putIn(2, 2);
        tree.wipe();
        due("undo()", tree.undo(), 0);
        due("count(13)", tree.count(13), 0);
    }

    @Says(UNDOES)
    void slotsAreNotUndone() {
        LeaningTrees tree = new LeaningTrees();
        tree.putIn(1, 1);
        tree.save(0);
        due("undo()", tree.undo(), 0);
        due("count(1)", tree.count(1), 0);
        due("restore(0)", tree.restore(0), 1);
        tree.putIn(2, 2);
        tree.save(0);
        tree.undo();
        tree.undo();
        due("restore(0): what was saved last", tree.restore(0), 2);
    }

    @Says(UNDOES)
    void undoGoesFurtherBackEachTime() {
        LeaningTrees tree = new LeaningTrees();
        for (int value = 1; value <= 5; value++) {
            tree.putIn(7, value);
        }
        for (int value = 4; value >= 1; value--) {
            due("undo()", tree.undo(), value);
            due("value(7)", tree.value(7), value);
        }
        due("undo()", tree.undo(), 0);
        due("value(7)", tree.value(7), NONE);
    }

    @Says(SIX)
    void sixChangesCanBeUndone() {
        LeaningTrees tree = new LeaningTrees();
        for (int value = 1; value <= 6; value++) {
            tree.putIn(7, value);
            due("count(14)", tree.count(14), value);
        }
        for (int left = 5; left >= 0; left--) {
            due("undo()", tree.undo(), left);
            due("count(14)", tree.count(14), left);
        }
        due("count(0): none was dropped", tree.count(0), 0);
        due("undo()", tree.undo(), NOT_POSSIBLE);
    }

    @Says(DROPPED)
    void theSeventhDropsTheOldest() {
        LeaningTrees tree = new LeaningTrees();
        for (int value = 1; value <= 7; value++) {
            tree.putIn(7, value);
        }
        due("count(14)", tree.count(14), 6);
        for (int left = 5; left >= 0; left--) {
            due("undo()", tree.undo(), left);
            due("value(7)", tree.value(7), left + 1);
        }
        due("undo()", tree.undo(), NOT_POSSIBLE);
        due("value(7): not before the first", tree.value(7), 1);
    }

    @Says(DROPPED)
    void manyMoreGoRound() {
        for (int changes = 8; changes <= 40; changes++) {
            LeaningTrees tree = new LeaningTrees();
            for (int value = 1; value <= changes; value++) {
                tree.putIn(7, value);
            }
            for (int undone = 1; undone <= 6; undone++) {
                due("undo() after " + changes, tree.undo(), 6 - undone);
                due("value(7)", tree.value(7), changes - undone);
            }
            due("undo()", tree.undo(), NOT_POSSIBLE);
        }
    }

    @Says(DROPPED)
    void changesAfterUndoAreRecordedBehindWhatIsLeft() {
        LeaningTrees tree = new LeaningTrees();
        for (int value = 1; value <= 8; value++) {
            tree.putIn(7, value);
        }
        for (int times = 0; times < 3; times++) {
            tree.undo();
        }
        due("value(7)", tree.value(7), 5);
        for (int value = 21; value <= 24; value++) {
            tree.putIn(7, value);
        }
        due("count(14)", tree.count(14), 6);
        int[] want = {23, 22, 21, 5, 4, 3};
        for (int undone = 0; undone < 6; undone++) {
            due("undo()", tree.undo(), 5 - undone);
            due("value(7)", tree.value(7), want[undone]);
        }
        due("undo()", tree.undo(), NOT_POSSIBLE);
    }

    @Says(RECORDS)
    void setOfTheSameValueIsRecorded() {
        LeaningTrees tree = new LeaningTrees();
        due("set(LEAN, 70)", tree.set(LEAN, 70), 70);
        due("count(14)", tree.count(14), 1);
    }

    @Says(RECORDS)
    void putInOfTheSameIsRecorded() {
        LeaningTrees tree = new LeaningTrees();
        tree.set(PAY, 0);
        tree.putIn(5, 5);
        tree.putIn(5, 5);
        due("count(14)", tree.count(14), 3);
        due("undo()", tree.undo(), 2);
        due("value(5)", tree.value(5), 5);
        due("undo()", tree.undo(), 1);
        due("value(5)", tree.value(5), NONE);
    }

    @Says(RECORDS)
    void removeAndRebuildAreRecorded() {
        LeaningTrees tree = new LeaningTrees();
        tree.putIn(5, 5);
        tree.rebuild(5);
        due("count(14)", tree.count(14), 2);
        tree.remove(5);
        due("count(14)", tree.count(14), 3);
    }

    @Says(RECORDS)
    void restoreOfTheSameIsRecorded() {
        LeaningTrees tree = new LeaningTrees();
        tree.save(0);
        due("restore(0)", tree.restore(0), 0);
        due("count(14)", tree.count(14), 1);
        due("undo()", tree.undo(), 0);
    }

    @Says(RECORDS)
    void carryOutOfNothingIsRecorded() {
        LeaningTrees tree = padOf("-5");
        due("carryOut()", tree.carryOut(), 0);
        due("count(14)", tree.count(14), 1);
    }

    @Says(RECORDS)
    void errorsAreNotRecorded() {
        LeaningTrees tree = nodes(60);
        for (int times = 0; times < 6; times++) {
            tree.undo();
        }
        tree.set(LEAN, 54);
        tree.putIn(5, 1000);
        tree.remove(5);
        tree.rebuild(5);
        tree.carryOut();
        tree.restore(0);
        tree.restore(2);
        due("count(14)", tree.count(14), 0);
        due("undo()", tree.undo(), NOT_POSSIBLE);
    }

    @Says(RECORDS)
    void whatIsNoChangeIsNotRecorded() {
        LeaningTrees tree = new LeaningTrees();
        tree.putIn(5, 5);
        tree.put('+');
        tree.fault();
        tree.wipe();
        tree.save(0);
        tree.save(1);
        tree.wouldCost(6);
        tree.worst(1);
        tree.value(5);
        tree.node(5, 2);
        tree.meanDepth(0);
        tree.leaning(5);
        tree.rank(5);
        tree.kth(0);
        tree.neighbour(5, 1);
        tree.sum(0, 999);
        due("count(14)", tree.count(14), 1);
        due("undo()", tree.undo(), 0);
        due("undo(): undo() records nothing either", tree.undo(), NOT_POSSIBLE);
    }

    @Says("An order of a text records nothing by itself.")
    void aTextIsRecordedOnce() {
        LeaningTrees tree = new LeaningTrees();
        for (int value = 1; value <= 5; value++) {
            tree.putIn(7, value);
        }
        write(tree, "+7=100;-7;+8;+9;!9;+1;+2;+3");
        due("carryOut()", tree.carryOut(), 8);
        due("count(14)", tree.count(14), 6);
        for (int left = 5; left >= 0; left--) {
            due("undo()", tree.undo(), left);
            due("count(1)", tree.count(1), left == 0 ? 0 : 1);
        }
        due("undo()", tree.undo(), NOT_POSSIBLE);
    }

    @Says("Returns how many changes can be undone then; NOT_POSSIBLE if there is none.")
    void nothingToUndo() {
        LeaningTrees tree = new LeaningTrees();
        due("undo() of a new object", tree.undo(), NOT_POSSIBLE);
        tree.putIn(1, 1);
        due("undo()", tree.undo(), 0);
        due("undo() again", tree.undo(), NOT_POSSIBLE);
        due("undo() and again", tree.undo(), NOT_POSSIBLE);
        tree.putIn(1, 1);
        due("count(14)", tree.count(14), 1);
        due("undo()", tree.undo(), 0);
    }

    // ---- Promise 22: save

    @Says(SAVES)
    void everythingIsSaved() {
        Calls saved = tree -> {
            layNodes(tree, 9);
            tree.set(LEAN, 90);
            tree.set(HOLLOW, 85);
            tree.set(PAY, 7);
            tree.remove(20);
            tree.rebuild(70);
            tree.putIn(75, 7);
        };
        LeaningTrees tree = new LeaningTrees();
        saved.on(tree);
        String before = Look.stateOf(tree);
        tree.save(1);
        tree.set(LEAN, 55);
        tree.set(HOLLOW, 10);
        tree.set(PAY, 1);
        tree.remove(30);
        tree.putIn(0, 99);
        tree.rebuild(tree.count(2));
        tree.restore(1);
        checks().same("promise 22: the state that was saved", Look.stateOf(tree), before);
    }

    @Says(SAVES)
    void whatWasSavedIsOverwritten() {
        LeaningTrees tree = nodes(3);
        due("save(0)", tree.save(0), 3);
        tree.putIn(5, 5);
        due("save(0) again", tree.save(0), 4);
        tree.remove(5);
        tree.remove(0);
        due("restore(0)", tree.restore(0), 4);
        due("value(5)", tree.value(5), 5);
        due("value(0)", tree.value(0), 0);
    }

    @Says(SAVES)
    void aSlotIsOverwrittenByAnEmptyTree() {
        LeaningTrees tree = new LeaningTrees();
        tree.putIn(1, 1);
        tree.save(0);
        tree.undo();
        due("save(0)", tree.save(0), 0);
        tree.putIn(2, 2);
        due("restore(0)", tree.restore(0), 0);
        due("count(0)", tree.count(0), 0);
        due("count(2)", tree.count(2), NONE);
    }

    @Says(SAVES)
    void laterChangesAreNotSaved() {
        LeaningTrees tree = nodes(3);
        tree.save(0);
        tree.putIn(0, 9);
        tree.remove(10);
        tree.putIn(30, 3);
        tree.undo();
        due("restore(0)", tree.restore(0), 3);
        due("value(0)", tree.value(0), 0);
        due("value(10)", tree.value(10), 1);
        due("value(30)", tree.value(30), NONE);
    }

    @Says(SAVES)
    void thePadIsNotSaved() {
        LeaningTrees tree = padOf("+5");
        tree.save(0);
        due("count(13) after save()", tree.count(13), 2);
        tree.wipe();
        write(tree, "-123");
        due("restore(0)", tree.restore(0), 0);
        due("count(13)", tree.count(13), 4);
        due("fault()", tree.fault(), NONE);
    }

    @Says(SAVES)
    void theHistoryIsNotSaved() {
        LeaningTrees tree = nodes(3);
        tree.save(0);
        tree.undo();
        tree.undo();
        due("restore(0)", tree.restore(0), 3);
        due("count(14): one and the restoring", tree.count(14), 2);
        due("undo()", tree.undo(), 1);
        due("count(1)", tree.count(1), 1);
    }

    @Says(SAVES)
    void theSlotsAreNotSaved() {
        LeaningTrees tree = nodes(1);
        tree.save(0);
        tree.save(1);
        tree.putIn(10, 1);
        due("save(1)", tree.save(1), 2);
        due("restore(0)", tree.restore(0), 1);
        due("restore(1): not what it was when the slot 0 was saved", tree.restore(1), 2);
    }

    @Says(SAVES)
    void savingIsNoChange() {
        LeaningTrees tree = nodes(3);
        String before = Look.stateOf(tree);
        due("save(0)", tree.save(0), 3);
        checks().same("promise 22: the state after save()", Look.stateOf(tree), before);
        due("undo()", tree.undo(), 2);
        due("count(1)", tree.count(1), 2);
    }

    @Says("Returns how many keys there are; BAD_VALUE if there is no such slot.")
    void thereAreTwoSlots() {
        LeaningTrees tree = hollowAt(calm(50, 20, 80), 20);
        for (int slot : new int[] {-1, 2, LEAST_INT, GREATEST_INT}) {
            due("save(" + slot + ")", tree.save(slot), BAD_VALUE);
            due("restore(" + slot + ")", tree.restore(slot), BAD_VALUE);
        }
        due("save(0): keys, not nodes", tree.save(0), 2);
        due("save(1)", tree.save(1), 2);
        due("save(0) of no keys", new LeaningTrees().save(0), 0);
        due("save(1) of sixty", nodes(60).save(1), 60);
    }

    // ---- Promise 23: restore

    @Says(RESTORES)
    void theSlotKeepsWhatWasSaved() {
        LeaningTrees tree = nodes(5);
        tree.save(0);
        String saved = Look.shapeOf(tree);
        for (int times = 0; times < 3; times++) {
            tree.remove(10 * times);
            tree.putIn(100 + times, 0);
            tree.rebuild(tree.count(2));
            due("restore(0)", tree.restore(0), 5);
            shape("restored", tree, saved);
        }
        tree.putIn(0, 77);
        tree.restore(0);
        due("value(0)", tree.value(0), 0);
    }

    @Says(RESTORES)
    void theSlotsAreApart() {
        LeaningTrees tree = nodes(2);
        tree.save(0);
        tree.putIn(20, 2);
        tree.save(1);
        tree.putIn(30, 3);
        due("restore(0)", tree.restore(0), 2);
        due("restore(1)", tree.restore(1), 3);
        due("restore(0)", tree.restore(0), 2);
        due("count(1)", tree.count(1), 2);
    }

    @Says("Restores what was saved last in a slot, which keeps it. This is a change.")
    void restoringIsAChange() {
        LeaningTrees tree = nodes(3);
        tree.save(0);
        tree.putIn(50, 5);
        due("restore(0)", tree.restore(0), 3);
        due("count(14)", tree.count(14), 5);
        due("undo()", tree.undo(), 4);
        due("value(50)", tree.value(50), 5);
        due("restore(0): the slot is not undone", tree.restore(0), 3);
    }

    @Says("Restores what was saved last in a slot, which keeps it. This is a change.")
    void restoringDropsTheOldestState() {
        LeaningTrees tree = new LeaningTrees();
        for (int value = 1; value <= 6; value++) {
            tree.putIn(7, value);
        }
        tree.save(1);
        due("restore(1)", tree.restore(1), 1);
        due("count(14)", tree.count(14), 6);
        for (int left = 5; left >= 0; left--) {
            due("undo()", tree.undo(), left);
            due("value(7)", tree.value(7), left + 1);
        }
    }

    @Says(RESTORE_ERRORS)
    void nothingWasSaved() {
        LeaningTrees tree = nodes(3);
        due("restore(0)", tree.restore(0), NOT_POSSIBLE);
        due("restore(1)", tree.restore(1), NOT_POSSIBLE);
        tree.save(1);
        due("restore(0), though the slot 1 is saved,", tree.restore(0), NOT_POSSIBLE);
        due("restore(1)", tree.restore(1), 3);
        due("count(1)", tree.count(1), 3);
    }

    @Says(RESTORE_ERRORS)
    void anEmptyTreeWasSaved() {
        LeaningTrees tree = new LeaningTrees();
        tree.save(1);
        tree.putIn(5, 5);
        due("restore(1)", tree.restore(1), 0);
        due("count(0)", tree.count(0), 0);
        due("count(5)", tree.count(5), 1000000);
    }

    @Says(RESTORE_ERRORS)
    void hollowNodesAreRestoredButNoKeys() {
        LeaningTrees tree = hollowAt(calm(50, 20, 80), 20);
        tree.save(0);
        tree.putIn(20, 2);
        due("count(1)", tree.count(1), 3);
        due("restore(0)", tree.restore(0), 2);
        due("count(0)", tree.count(0), 3);
        due("node(20, 5)", tree.node(20, 5), 0);
    }
}
