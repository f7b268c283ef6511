/** What the tests of single sentences share: answers that are due, and trees to begin with. */
abstract class Edges {
    static final int NO_SUCH = -1, BAD_VALUE = -2, BAD_TEXT = -3, TOO_MANY = -4, NOT_POSSIBLE = -5, NONE = -6;
    static final int LEAN = 0, HOLLOW = 1, PAY = 2;
    static final int LEAST_INT = Integer.MIN_VALUE, GREATEST_INT = Integer.MAX_VALUE;
    /** Numbers just outside of 0 to 999, and those at the ends of all. */
    static final int[] NO_NUMBERS = {-1, 1000, LEAST_INT, GREATEST_INT};

    /** 27 orders, 80 characters. */
    static final String FULL_PAD =
        "+1;+2;+3;+4;+5;+6;+7;+8;+9;-1;-2;-3;-4;-5;-6;-7;-8;-9;+1;+2;+3;+4;+5;+6;+7;+8;+9";

    interface Calls {
        void on(LeaningTrees tree);
    }

    interface Call {
        long on(LeaningTrees tree);
    }

    private final Checks checks = new Checks();
    private String test = "";

    final void begin(String name) {
        test = name;
    }

    final Checks checks() {
        return checks;
    }

    final void due(String call, long got, long want) {
        checks.due(test + ": " + call, got, want);
    }

    final void shape(String when, LeaningTrees tree, String want) {
        checks.same(test + ": the tree " + when, Look.shapeOf(tree), want);
    }

    /** A call that comes after others, and leaves nothing else than they did. */
    final void changesNothing(Calls before, String name, Call call, long answer) {
        LeaningTrees tree = new LeaningTrees();
        before.on(tree);
        due(name, call.on(tree), answer);
        alike("after " + name, before, changed -> {
            before.on(changed);
            call.on(changed);
        });
    }

    final void alike(String when, Calls one, Calls other) {
        checks.same(test + ": all that can be seen " + when, Look.at(other), Look.at(one));
    }

    /** What is asked of a text of its own. */
    final void faultOf(String text, int want) {
        due("fault() of " + text, padOf(text).fault(), want);
    }

    static LeaningTrees padOf(String text) {
        LeaningTrees tree = new LeaningTrees();
        write(tree, text);
        return tree;
    }

    static void write(LeaningTrees tree, String text) {
        for (int start = 0; start < text.length(); start += 8) {
            tree.put(number(text.substring(start, Math.min(start + 8, text.length()))));
        }
    }

    static long number(String characters) {
        long number = 0;
        for (int place = 0; place < characters.length(); place++) {
            number = number << 8 | characters.charAt(place);
        }
        return number;
    }

    /** A tree that stays as its nodes come, if no way gets longer than 20, with nothing paid; each value is the key. */
    static LeaningTrees calm(int... keys) {
        LeaningTrees tree = new LeaningTrees();
        layCalm(tree, keys);
        return tree;
    }

    static void layCalm(LeaningTrees tree, int... keys) {
        tree.set(LEAN, 95);
        tree.set(HOLLOW, 90);
        tree.set(PAY, 0);
        for (int key : keys) {
            tree.putIn(key, key);
        }
    }

    /** The keys 1, 2, .. each to the right of the one before. */
    static LeaningTrees chain(int length) {
        int[] keys = new int[length];
        for (int place = 0; place < length; place++) {
            keys[place] = place + 1;
        }
        return calm(keys);
    }

    static LeaningTrees hollowAt(LeaningTrees tree, int... keys) {
        for (int key : keys) {
            tree.remove(key);
        }
        return tree;
    }

    /** The keys 0, 10, .. with the values 0, 1, .. */
    static LeaningTrees nodes(int number) {
        LeaningTrees tree = new LeaningTrees();
        layNodes(tree, number);
        return tree;
    }

    static void layNodes(LeaningTrees tree, int number) {
        for (int place = 0; place < number; place++) {
            tree.putIn(10 * place, place);
        }
    }

    /** Some of everything: hollow nodes, something paid and spent, 4 states to undo, both slots, a pad. */
    static void layBusy(LeaningTrees tree) {
        tree.set(HOLLOW, 90);
        tree.putIn(10, 1);
        tree.putIn(20, 2);
        tree.save(0);
        tree.putIn(30, 3);
        tree.putIn(40, 4);
        tree.remove(40);
        tree.save(1);
        tree.putIn(50, 5);
        tree.putIn(60, 6);
        tree.undo();
        tree.undo();
        write(tree, "+70=7;-70;!20");
    }
}
