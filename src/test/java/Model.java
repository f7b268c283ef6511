import java.util.ArrayList;
import java.util.List;
import java.util.TreeMap;

/**
 * The document once more, as plainly as it can be said, with linked nodes and copies of everything. It shares
 * nothing with the program, so that both are hardly wrong in the same way.
 */
final class Model {
    static final int NO_SUCH = -1, BAD_VALUE = -2, BAD_TEXT = -3, TOO_MANY = -4, NOT_POSSIBLE = -5, NONE = -6;

    private static final class Node {
        int key, value, paid;
        boolean full;
        Node left, right;

        Node copy() {
            Node copy = new Node();
            copy.key = key;
            copy.value = value;
            copy.paid = paid;
            copy.full = full;
            copy.left = left == null ? null : left.copy();
            copy.right = right == null ? null : right.copy();
            return copy;
        }
    }

    private static final class State {
        int lean = 70, hollow = 40, pay = 2;
        int work, funds, times, most;
        Node root;

        State copy() {
            State copy = new State();
            copy.lean = lean;
            copy.hollow = hollow;
            copy.pay = pay;
            copy.work = work;
            copy.funds = funds;
            copy.times = times;
            copy.most = most;
            copy.root = root == null ? null : root.copy();
            return copy;
        }
    }

    private State now = new State();
    private final List<State> history = new ArrayList<>();
    private final State[] slots = new State[2];
    private String pad = "";

    private static boolean bad(int number) {
        return number < 0 || number > 999;
    }

    private void record() {
        history.add(now.copy());
        if (history.size() > 6) {
            history.remove(0);
        }
    }

    private static void list(Node node, List<Node> nodes) {
        if (node != null) {
            list(node.left, nodes);
            nodes.add(node);
            list(node.right, nodes);
        }
    }

    private static List<Node> below(Node node) {
        List<Node> nodes = new ArrayList<>();
        list(node, nodes);
        return nodes;
    }

    private static int weight(Node node) {
        return node == null ? 0 : 1 + weight(node.left) + weight(node.right);
    }

    private static int height(Node node) {
        return node == null ? -1 : 1 + Math.max(height(node.left), height(node.right));
    }

    private List<Node> way(int key) {
        List<Node> way = new ArrayList<>();
        Node node = now.root;
        while (node != null) {
            way.add(node);
            if (node.key == key) {
                break;
            }
            node = key < node.key ? node.left : node.right;
        }
        return way;
    }

    private Node find(int key) {
        List<Node> way = way(key);
        Node last = way.isEmpty() ? null : way.get(way.size() - 1);
        return last != null && last.key == key ? last : null;
    }

    private TreeMap<Integer, Integer> keys() {
        TreeMap<Integer, Integer> keys = new TreeMap<>();
        for (Node node : below(now.root)) {
            if (node.full) {
                keys.put(node.key, node.value);
            }
        }
        return keys;
    }

    private boolean leans(Node node) {
        int limit = now.lean * weight(node);
        return 100 * weight(node.left) > limit || 100 * weight(node.right) > limit;
    }

    private static Node lay(List<Node> nodes) {
        if (nodes.isEmpty()) {
            return null;
        }
        int middle = (nodes.size() - 1) / 2;
        Node root = nodes.get(middle);
        root.left = lay(new ArrayList<>(nodes.subList(0, middle)));
        root.right = lay(new ArrayList<>(nodes.subList(middle + 1, nodes.size())));
        return root;
    }

    private int rebuildNode(Node node) {
        List<Node> way = way(node.key);
        Node parent = way.size() < 2 ? null : way.get(way.size() - 2);
        int weight = weight(node);
        List<Node> full = new ArrayList<>();
        for (Node each : below(node)) {
            now.funds += each.paid;
            each.paid = 0;
            if (each.full) {
                full.add(each);
            }
        }
        now.funds -= weight;
        now.work += weight;
        now.times++;
        now.most = Math.max(now.most, weight);
        Node laid = lay(full);
        if (parent == null) {
            now.root = laid;
        } else if (parent.left == node) {
            parent.left = laid;
        } else {
            parent.right = laid;
        }
        return weight;
    }

    private int doPutIn(int key, int value) {
        Node old = find(key);
        if (old == null && weight(now.root) == 60) {
            return TOO_MANY;
        }
        if (old != null) {
            old.value = value;
            old.full = true;
        } else {
            Node fresh = new Node();
            fresh.key = key;
            fresh.value = value;
            fresh.full = true;
            List<Node> way = way(key);
            if (way.isEmpty()) {
                now.root = fresh;
            } else if (key < way.get(way.size() - 1).key) {
                way.get(way.size() - 1).left = fresh;
            } else {
                way.get(way.size() - 1).right = fresh;
            }
        }
        for (Node node : way(key)) {
            node.paid += now.pay;
        }
        if (old == null) {
            for (Node node : way(key)) {
                if (leans(node)) {
                    return rebuildNode(node);
                }
            }
        }
        return 0;
    }

    private int doRemove(int key) {
        Node node = find(key);
        if (node == null || !node.full) {
            return NO_SUCH;
        }
        node.full = false;
        for (Node each : way(key)) {
            each.paid += now.pay;
        }
        int all = weight(now.root);
        int hollow = all - keys().size();
        return 100 * hollow > now.hollow * all ? rebuildNode(now.root) : 0;
    }

    private int doRebuild(int key) {
        Node node = find(key);
        return node == null ? NO_SUCH : rebuildNode(node);
    }

    int set(int setting, int value) {
        int[] least = {55, 10, 0}, most = {95, 90, 9};
        if (setting < 0 || setting > 2 || value < least[setting] || value > most[setting]) {
            return BAD_VALUE;
        }
        record();
        int previous = setting == 0 ? now.lean : setting == 1 ? now.hollow : now.pay;
        if (setting == 0) {
            now.lean = value;
        } else if (setting == 1) {
            now.hollow = value;
        } else {
            now.pay = value;
        }
        return previous;
    }

    /** Does an order as a change: what was before it is recorded only if it went well. */
    private int change(char sign, int key, int value) {
        State before = now.copy();
        int answer = order(sign, key, value);
        if (answer >= 0) {
            State after = now;
            now = before;
            record();
            now = after;
        }
        return answer;
    }

    private int order(char sign, int key, int value) {
        return sign == '+' ? doPutIn(key, value) : sign == '-' ? doRemove(key) : doRebuild(key);
    }

    int putIn(int key, int value) {
        return bad(key) || bad(value) ? BAD_VALUE : change('+', key, value);
    }

    int remove(int key) {
        return bad(key) ? BAD_VALUE : change('-', key, 0);
    }

    int rebuild(int key) {
        return bad(key) ? BAD_VALUE : change('!', key, 0);
    }

    int value(int key) {
        return bad(key) ? BAD_VALUE : keys().getOrDefault(key, NONE);
    }

    int node(int key, int what) {
        if (bad(key) || what < 0 || what > 8) {
            return BAD_VALUE;
        }
        Node node = find(key);
        if (node == null) {
            return NO_SUCH;
        }
        switch (what) {
            case 0: return node.left == null ? NONE : node.left.key;
            case 1: return node.right == null ? NONE : node.right.key;
            case 2: return weight(node);
            case 3: return way(key).size() - 1;
            case 4: return node.paid;
            case 5: return node.full ? 1 : 0;
            case 6: return (int) below(node).stream().filter(each -> each.full).count();
            case 7: return leans(node) ? 1 : 0;
            default: return height(node);
        }
    }

    int count(int what) {
        List<Node> nodes = below(now.root);
        switch (what) {
            case 0: return nodes.size();
            case 1: return keys().size();
            case 2: return now.root == null ? NONE : now.root.key;
            case 3: return now.root == null ? NONE : height(now.root);
            case 4: return now.work;
            case 5: return now.funds + 1000000;
            case 6: return nodes.stream().mapToInt(node -> node.paid).sum();
            case 7: return now.times;
            case 8: return now.most;
            case 9: return (int) nodes.stream().filter(this::leans).count();
            case 10: return now.lean;
            case 11: return now.hollow;
            case 12: return now.pay;
            case 13: return pad.length();
            case 14: return history.size();
            default: return BAD_VALUE;
        }
    }

    long meanDepth(int what) {
        if (what != 0 && what != 1) {
            return BAD_VALUE;
        }
        List<Node> nodes = below(now.root);
        if (nodes.isEmpty()) {
            return 0;
        }
        int depths = nodes.stream().mapToInt(node -> way(node.key).size() - 1).sum();
        double mean = (double) depths / nodes.size();
        return Double.doubleToLongBits(what == 0 ? mean : mean % 1.0);
    }

    int leaning(int key) {
        if (bad(key)) {
            return BAD_VALUE;
        }
        Node node = find(key);
        if (node == null) {
            return NO_SUCH;
        }
        return Float.floatToIntBits((float) Math.max(weight(node.left), weight(node.right)) / (float) weight(node));
    }

    int rank(int key) {
        return bad(key) ? BAD_VALUE : keys().headMap(key, false).size();
    }

    int kth(int k) {
        return k < 0 || k >= keys().size() ? NO_SUCH : new ArrayList<>(keys().keySet()).get(k);
    }

    int neighbour(int key, int what) {
        if (bad(key) || what < 0 || what > 1) {
            return BAD_VALUE;
        }
        Integer found = what == 0 ? keys().lowerKey(key) : keys().higherKey(key);
        return found == null ? NONE : found;
    }

    int sum(int low, int high) {
        if (bad(low) || bad(high) || high < low) {
            return BAD_VALUE;
        }
        return keys().subMap(low, true, high, true).values().stream().mapToInt(Integer::intValue).sum();
    }

    int wouldCost(int key) {
        if (bad(key)) {
            return BAD_VALUE;
        }
        State kept = now.copy();
        int cost = doPutIn(key, 0);
        now = kept;
        return cost;
    }

    int worst(int what) {
        if (what < 0 || what > 1) {
            return BAD_VALUE;
        }
        if (weight(now.root) == 60) {
            return TOO_MANY;
        }
        int best = 0;
        int most = 0;
        for (int key = 0; key <= 999; key++) {
            int cost = wouldCost(key);
            if (cost > most) {
                most = cost;
                best = key;
            }
        }
        return what == 0 ? best : most;
    }

    int put(long characters) {
        StringBuilder text = new StringBuilder();
        long left = characters;
        while (left != 0) {
            int code = (int) (left & 255);
            if (code < 33 || code > 126) {
                return BAD_VALUE;
            }
            text.insert(0, (char) code);
            left >>>= 8;
        }
        if (text.length() == 0) {
            return BAD_VALUE;
        }
        if (pad.length() + text.length() > 80) {
            return TOO_MANY;
        }
        pad += text;
        return pad.length();
    }

    int wipe() {
        int length = pad.length();
        pad = "";
        return length;
    }

    private static final String NUMBER = "(0|[1-9][0-9]{0,2})";
    private static final String ORDER = "(\\+" + NUMBER + "(=" + NUMBER + ")?|-" + NUMBER + "|!" + NUMBER + ")";

    /** Whether a text can still become a right one: one of these ends makes every beginning right. */
    private static boolean canGoOn(String beginning) {
        for (String end : new String[] {"", "0", "+0"}) {
            if ((beginning + end).matches(ORDER + "(;" + ORDER + ")*")) {
                return true;
            }
        }
        return false;
    }

    int fault() {
        for (int length = 1; length <= pad.length(); length++) {
            if (!canGoOn(pad.substring(0, length))) {
                return length - 1;
            }
        }
        return pad.matches(ORDER + "(;" + ORDER + ")*") ? NONE : pad.length();
    }

    int carryOut() {
        if (fault() != NONE) {
            return BAD_TEXT;
        }
        record();
        int done = 0;
        for (String order : pad.split(";")) {
            String[] numbers = order.substring(1).split("=");
            int key = Integer.parseInt(numbers[0]);
            int value = numbers.length > 1 ? Integer.parseInt(numbers[1]) : key;
            if (order(order.charAt(0), key, value) < 0) {
                break;
            }
            done++;
        }
        pad = "";
        return done;
    }

    int undo() {
        if (history.isEmpty()) {
            return NOT_POSSIBLE;
        }
        now = history.remove(history.size() - 1);
        return history.size();
    }

    int save(int slot) {
        if (slot < 0 || slot > 1) {
            return BAD_VALUE;
        }
        slots[slot] = now.copy();
        return keys().size();
    }

    int restore(int slot) {
        if (slot < 0 || slot > 1) {
            return BAD_VALUE;
        }
        if (slots[slot] == null) {
            return NOT_POSSIBLE;
        }
        record();
        now = slots[slot].copy();
        return keys().size();
    }
}
