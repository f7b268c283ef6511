import java.util.Random;

/** Long runs of calls, drawn from fixed seeds, in which the program and the model have to answer alike. */
public final class RunsTest {
    private static final int RUNS = 2000;
    /** More calls than that are not promised to be answered. */
    private static final int CALLS = 512;
    /** The most calls that one step makes: a change and all counts, or a text of 6 orders with its fault. */
    private static final int STEP = 20;
    private static final String CHARACTERS = "+-!=;0123456789x~";
    private static final int[] ODD_NUMBERS = {-1, 1000, Integer.MIN_VALUE, Integer.MAX_VALUE, 0, 999};

    private final Checks checks = new Checks();
    private final Random random;
    private final int run;
    private final int keys;
    private final int oddEvery;
    private final int removals;
    private LeaningTrees tree = new LeaningTrees();
    private Model model = new Model();
    private int climbing;

    private RunsTest(int run) {
        this.run = run;
        random = new Random(run);
        keys = new int[] {12, 40, 90, 1000}[run % 4];
        oddEvery = run % 3 == 0 ? 8 : 40;
        removals = new int[] {1, 4, 8}[run / 4 % 3];
    }

    public static void main(String[] args) {
        Checks all = new Checks();
        for (int run = 0; run < RUNS; run++) {
            RunsTest test = new RunsTest(run);
            test.callAll();
            all.holds("run " + run, !test.checks.anyWrong());
        }
        all.end("RunsTest");
    }

    private void callAll() {
        if (run % 5 == 0) {
            fill();
        }
        while (checks.made() + STEP <= CALLS && !checks.anyWrong()) {
            int kind = random.nextInt(100);
            if (kind < 50) {
                change();
            } else if (kind < 85) {
                ask();
            } else {
                write();
            }
        }
        while (checks.made() < CALLS && !checks.anyWrong()) {
            due("undo()", tree.undo(), model.undo());
        }
    }

    /** Some runs begin where the tree is nearly full. */
    private void fill() {
        for (int number = 50 + random.nextInt(20); number > 0; number--) {
            int key = random.nextInt(1000);
            due("putIn(" + key + ", 1)", tree.putIn(key, 1), model.putIn(key, 1));
        }
    }

    private boolean isOdd() {
        return random.nextInt(oddEvery) == 0;
    }

    private int odd() {
        return ODD_NUMBERS[random.nextInt(ODD_NUMBERS.length)];
    }

    private int key() {
        if (isOdd()) {
            return odd();
        }
        if (random.nextInt(3) == 0) {
            climbing = (climbing + 1 + random.nextInt(2)) % keys;
            return climbing;
        }
        return random.nextInt(keys);
    }

    private int number(int below) {
        return isOdd() ? random.nextInt(4) == 0 ? odd() : below : random.nextInt(below);
    }

    private void due(String call, long got, long want) {
        checks.due("run " + run + ": " + call, got, want);
    }

    private void change() {
        int kind = random.nextInt(20 + removals);
        if (kind < 14) {
            int key = key();
            int value = isOdd() ? odd() : random.nextInt(1000);
            due("putIn(" + key + ", " + value + ")", tree.putIn(key, value), model.putIn(key, value));
        } else if (kind == 14) {
            int key = key();
            due("rebuild(" + key + ")", tree.rebuild(key), model.rebuild(key));
        } else if (kind == 15) {
            int setting = number(3);
            int value = settingValue(setting);
            due("set(" + setting + ", " + value + ")", tree.set(setting, value), model.set(setting, value));
        } else if (kind == 16) {
            due("undo()", tree.undo(), model.undo());
        } else if (kind == 17) {
            int slot = number(2);
            due("save(" + slot + ")", tree.save(slot), model.save(slot));
        } else if (kind == 18 && random.nextInt(3) == 0) {
            int slot = number(2);
            due("restore(" + slot + ")", tree.restore(slot), model.restore(slot));
        } else {
            int key = random.nextInt(3) == 0 ? key() : model.kth(random.nextInt(60));
            due("remove(" + key + ")", tree.remove(key), model.remove(key));
        }
        boolean all = random.nextInt(8) == 0;
        for (int what = 0; what <= 14; what++) {
            if (all || random.nextInt(15) == 0) {
                due("count(" + what + ")", tree.count(what), model.count(what));
            }
        }
    }

    private int settingValue(int setting) {
        switch (setting) {
            case 0: return 54 + random.nextInt(43);
            case 1: return 9 + random.nextInt(83);
            default: return random.nextInt(11) - random.nextInt(2);
        }
    }

    private void ask() {
        int key = key();
        int kind = random.nextInt(30);
        if (kind < 3) {
            for (int what = -1; what <= 9; what++) {
                due("node(" + key + ", " + what + ")", tree.node(key, what), model.node(key, what));
            }
        } else if (kind < 8) {
            int what = number(2);
            due("value(" + key + ")", tree.value(key), model.value(key));
            due("leaning(" + key + ")", tree.leaning(key), model.leaning(key));
            due("meanDepth(" + what + ")", tree.meanDepth(what), model.meanDepth(what));
            due("count(" + key + ")", tree.count(key), model.count(key));
        } else if (kind < 13) {
            int k = random.nextInt(62) - 1;
            due("rank(" + key + ")", tree.rank(key), model.rank(key));
            due("kth(" + k + ")", tree.kth(k), model.kth(k));
            due("kth(" + key + ")", tree.kth(key), model.kth(key));
        } else if (kind < 18) {
            int what = number(2);
            due("neighbour(" + key + ", " + what + ")", tree.neighbour(key, what), model.neighbour(key, what));
        } else if (kind < 23) {
            int high = key();
            due("sum(" + key + ", " + high + ")", tree.sum(key, high), model.sum(key, high));
        } else if (kind < 28) {
            due("wouldCost(" + key + ")", tree.wouldCost(key), model.wouldCost(key));
        } else if (kind == 28 && random.nextInt(3) == 0) {
            int what = number(2);
            due("worst(" + what + ")", tree.worst(what), model.worst(what));
        }
    }

    private void write() {
        int kind = random.nextInt(12);
        if (kind < 6) {
            putText(orders());
        } else if (kind < 7) {
            long characters = oddCharacters();
            due("put(" + characters + ")", tree.put(characters), model.put(characters));
        } else if (kind < 8) {
            due("wipe()", tree.wipe(), model.wipe());
        } else if (kind < 10) {
            due("carryOut()", tree.carryOut(), model.carryOut());
        }
        due("fault()", tree.fault(), model.fault());
    }

    private void putText(String text) {
        for (int start = 0; start < text.length(); start += 8) {
            long characters = 0;
            for (int place = start; place < Math.min(start + 8, text.length()); place++) {
                characters = characters << 8 | text.charAt(place);
            }
            due("put(" + characters + ")", tree.put(characters), model.put(characters));
        }
    }

    private String orders() {
        StringBuilder text = new StringBuilder(model.count(13) == 0 ? "" : ";");
        for (int left = 1 + random.nextInt(6); left > 0; left--) {
            char sign = "++++---!".charAt(random.nextInt(8));
            text.append(sign).append(random.nextInt(keys));
            if (random.nextInt(sign == '+' ? 3 : 40) == 0) {
                text.append('=').append(random.nextInt(1000));
            }
            text.append(left == 1 ? "" : ";");
        }
        if (random.nextInt(4) == 0) {
            text.setCharAt(random.nextInt(text.length()), CHARACTERS.charAt(random.nextInt(CHARACTERS.length())));
        }
        return text.toString();
    }

    private long oddCharacters() {
        switch (random.nextInt(5)) {
            case 0: return 0;
            case 1: return random.nextLong();
            case 2: return random.nextInt(256);
            case 3: return 0x2b31L << 8 * random.nextInt(8);
            default: return 0x2b00313233L;
        }
    }
}
