/** All that an object lets be seen, as a text. */
final class Look {
    private static final int MOST_UNDO = 6;

    private Look() {
    }

    /** What some calls leave, and what undo, the pad and the slots hold then; each look has an object of its own. */
    static String at(Edges.Calls calls) {
        StringBuilder text = new StringBuilder();
        for (int undone = 0; undone <= MOST_UNDO; undone++) {
            LeaningTrees tree = after(calls);
            text.append("\nundo:");
            for (int times = 0; times < undone; times++) {
                text.append(' ').append(tree.undo());
            }
            text.append(stateOf(tree));
        }
        LeaningTrees carriedOut = after(calls);
        text.append("\ncarryOut: ").append(carriedOut.carryOut()).append(stateOf(carriedOut));
        for (int slot = 0; slot <= 1; slot++) {
            LeaningTrees restored = after(calls);
            text.append("\nrestore: ").append(restored.restore(slot)).append(stateOf(restored));
        }
        return text.toString();
    }

    private static LeaningTrees after(Edges.Calls calls) {
        LeaningTrees tree = new LeaningTrees();
        calls.on(tree);
        return tree;
    }

    /** The tree and the numbers of now. */
    static String stateOf(LeaningTrees tree) {
        StringBuilder text = new StringBuilder();
        for (int what = 0; what <= 14; what++) {
            text.append(' ').append(tree.count(what));
        }
        text.append(" fault ").append(tree.fault()).append(' ');
        writeNode(text, tree, tree.count(2), true);
        return text.toString();
    }

    /** Each node with its children in brackets, a point where there is none, and a wave behind a hollow one. */
    static String shapeOf(LeaningTrees tree) {
        StringBuilder text = new StringBuilder();
        writeNode(text, tree, tree.count(2), false);
        return text.toString();
    }

    private static void writeNode(StringBuilder text, LeaningTrees tree, int key, boolean withAll) {
        if (key < 0) {
            text.append('.');
            return;
        }
        text.append(key).append(tree.node(key, 5) == 1 ? "" : "~");
        if (withAll) {
            text.append('=').append(tree.value(key)).append('$').append(tree.node(key, 4));
        }
        int left = tree.node(key, 0);
        int right = tree.node(key, 1);
        if (left >= 0 || right >= 0) {
            text.append('(');
            writeNode(text, tree, left, withAll);
            text.append(' ');
            writeNode(text, tree, right, withAll);
            text.append(')');
        }
    }
}
