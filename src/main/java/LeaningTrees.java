/** A search tree of at most 60 nodes that is rebuilt where it leans. */
public final class LeaningTrees {
    public static final int NO_SUCH = -1, BAD_VALUE = -2, BAD_TEXT = -3, TOO_MANY = -4, NOT_POSSIBLE = -5, NONE = -6;
    public static final int LEAN = 0, HOLLOW = 1, PAY = 2;

    private static final int MOST_NODES = 60;
    private static final int MOST_NUMBER = 999;
    private static final int MOST_CHARACTERS = 80;
    private static final int MOST_CHARACTERS_AT_ONCE = 8;
    private static final int MOST_UNDO = 6;
    private static final int SLOTS = 2;
    private static final int FUNDS_ARE_TOLD_FROM = 1000000;
    /** Far above what the means and shares of 60 nodes need: their powers of two lie between -6 and 5. */
    private static final int MOST_POWER = 64;

    private static final int[] FIRST_SETTINGS = {70, 40, 2};
    private static final int[] LEAST_SETTINGS = {55, 10, 0};
    private static final int[] GREATEST_SETTINGS = {95, 90, 9};

    private final Tree now = new Tree();
    private final History history = new History();
    private final Slot[] slots = new Slot[SLOTS];
    private final Pad pad = new Pad();
    private final OrderReader reader = new OrderReader();

    public LeaningTrees() {
        for (int slot = 0; slot < slots.length; slot++) {
            slots[slot] = new Slot();
        }
    }

    // ---- changes

    public int set(int setting, int value) {
        if (!isSetting(setting, value)) {
            return BAD_VALUE;
        }
        history.keep(now);
        int previous = now.settings.at(setting);
        now.settings.write(setting, value);
        return previous;
    }

    public int putIn(int key, int value) {
        if (!isNumber(key) || !isNumber(value)) {
            return BAD_VALUE;
        }
        if (!now.hasRoomFor(key)) {
            return TOO_MANY;
        }
        history.keep(now);
        return now.enter(key, value);
    }

    public int remove(int key) {
        if (!isNumber(key)) {
            return BAD_VALUE;
        }
        if (now.fullNodeOf(key) == NONE) {
            return NO_SUCH;
        }
        history.keep(now);
        return now.hollowOut(key);
    }

    public int rebuild(int key) {
        if (!isNumber(key)) {
            return BAD_VALUE;
        }
        if (now.nodeOf(key) == NONE) {
            return NO_SUCH;
        }
        history.keep(now);
        return now.layAnewFromKey(key);
    }

    // ---- what there is

    public int value(int key) {
        if (!isNumber(key)) {
            return BAD_VALUE;
        }
        int place = now.fullNodeOf(key);
        return place == NONE ? NONE : now.values.at(place);
    }

    public int node(int key, int what) {
        if (!isNumber(key) || what < 0 || what > 8) {
            return BAD_VALUE;
        }
        int place = now.nodeOf(key);
        return place == NONE ? NO_SUCH : aboutNode(place, what);
    }

    public int count(int what) {
        if (what < 0 || what > 14) {
            return BAD_VALUE;
        }
        switch (what) {
            case 13:
                return pad.length;
            case 14:
                return history.length;
            default:
                return what < 4 ? shapeOfTree(what) : booksOfTree(what);
        }
    }

    public long meanDepth(int what) {
        if (what != 0 && what != 1) {
            return BAD_VALUE;
        }
        if (now.nodes <= 0) {
            return 0L;
        }
        double mean = (double) now.depths.total(0, now.nodes - 1) / (double) now.nodes;
        return bitsOfDouble(what == 0 ? mean : mean - (double) (long) mean);
    }

    public int leaning(int key) {
        if (!isNumber(key)) {
            return BAD_VALUE;
        }
        int place = now.nodeOf(key);
        if (place == NONE) {
            return NO_SUCH;
        }
        int low = now.lowestOf(place);
        int high = now.highestOf(place);
        int weight = high - low + 1;
        if (weight <= 0) {
            return 0;
        }
        return bitsOfFloat((float) Math.max(place - low, high - place) / (float) weight);
    }

    // ---- questions; nothing changes

    public int rank(int key) {
        return isNumber(key) ? now.keysAhead(key) : BAD_VALUE;
    }

    public int kth(int k) {
        int place = now.placeOfKth(k);
        return place == NONE ? NO_SUCH : now.keys.at(place);
    }

    public int neighbour(int key, int what) {
        if (!isNumber(key) || (what != 0 && what != 1)) {
            return BAD_VALUE;
        }
        int lesser = now.keysAhead(key);
        int same = now.fullNodeOf(key) == NONE ? 0 : 1;
        int place = now.placeOfKth(what == 0 ? lesser - 1 : lesser + same);
        return place == NONE ? NONE : now.keys.at(place);
    }

    public int sum(int low, int high) {
        if (!isNumber(low) || !isNumber(high) || high < low) {
            return BAD_VALUE;
        }
        int sum = 0;
        for (int place = now.placeOf(low); place < now.nodes && now.keys.at(place) <= high; place++) {
            sum += now.isFull(place) ? now.values.at(place) : 0;
        }
        return sum;
    }

    public int wouldCost(int key) {
        if (!isNumber(key)) {
            return BAD_VALUE;
        }
        return now.hasRoomFor(key) ? now.costOf(key) : TOO_MANY;
    }

    public int worst(int what) {
        if (what != 0 && what != 1) {
            return BAD_VALUE;
        }
        if (now.nodes >= MOST_NODES) {
            return TOO_MANY;
        }
        int worstKey = 0;
        int most = 0;
        // All keys between two nodes cost the same, so the lowest one of each gap stands for all of them.
        for (int gap = 0; gap <= now.nodes; gap++) {
            int key = gap == 0 ? 0 : now.keys.at(gap - 1) + 1;
            int cost = isNumber(key) ? now.costOf(key) : 0;
            if (cost > most) {
                most = cost;
                worstKey = key;
            }
        }
        return what == 0 ? worstKey : most;
    }

    // ---- texts

    public int put(long characters) {
        int number = Pad.charactersIn(characters);
        if (number <= 0) {
            return BAD_VALUE;
        }
        if (pad.length + number > MOST_CHARACTERS) {
            return TOO_MANY;
        }
        pad.append(characters, number);
        return pad.length;
    }

    public int wipe() {
        int length = pad.length;
        pad.length = 0;
        return length;
    }

    public int fault() {
        reader.begin();
        for (int place = 0; place < pad.length; place++) {
            if (!reader.takes(pad.codes.at(place))) {
                return place;
            }
        }
        return reader.hasWholeOrder() ? NONE : pad.length;
    }

    public int carryOut() {
        if (fault() != NONE) {
            return BAD_TEXT;
        }
        history.keep(now);
        int carriedOut = 0;
        reader.begin();
        for (int place = 0; place <= pad.length; place++) {
            // The end ends an order as ';' does; in a pad without fault the order is whole there.
            int code = place < pad.length ? pad.codes.at(place) : ';';
            if (code == ';') {
                if (answerToOrder() < 0) {
                    break;
                }
                carriedOut++;
            }
            reader.takes(code);
        }
        pad.length = 0;
        return carriedOut;
    }

    // ---- undo, saving

    public int undo() {
        return history.takeBackInto(now) ? history.length : NOT_POSSIBLE;
    }

    public int save(int slot) {
        Slot chosen = slotAt(slot);
        if (chosen == null) {
            return BAD_VALUE;
        }
        chosen.tree.become(now);
        chosen.isSaved = true;
        return now.allKeys();
    }

    public int restore(int slot) {
        Slot chosen = slotAt(slot);
        if (chosen == null) {
            return BAD_VALUE;
        }
        if (!chosen.isSaved) {
            return NOT_POSSIBLE;
        }
        history.keep(now);
        now.become(chosen.tree);
        return now.allKeys();
    }

    // ---- what the calls share

    private static boolean isNumber(int number) {
        return number >= 0 && number <= MOST_NUMBER;
    }

    private static boolean isSetting(int setting, int value) {
        if (setting < 0 || setting >= LEAST_SETTINGS.length || setting >= GREATEST_SETTINGS.length) {
            return false;
        }
        return value >= LEAST_SETTINGS[setting] && value <= GREATEST_SETTINGS[setting];
    }

    private Slot slotAt(int slot) {
        return slot >= 0 && slot < slots.length ? slots[slot] : null;
    }

    private int aboutNode(int place, int what) {
        int low = now.lowestOf(place);
        int high = now.highestOf(place);
        int depth = now.depths.at(place);
        switch (what) {
            case 0:
                return keyOfTop(low, place - 1, depth + 1);
            case 1:
                return keyOfTop(place + 1, high, depth + 1);
            case 2:
                return high - low + 1;
            case 3:
                return depth;
            case 4:
                return now.paid.at(place);
            case 5:
                return now.isFull(place) ? 1 : 0;
            case 6:
                return now.full.total(low, high);
            case 7:
                return now.leans(place) ? 1 : 0;
            default:
                return now.depths.greatest(low, high) - depth;
        }
    }

    private int shapeOfTree(int what) {
        int last = now.nodes - 1;
        switch (what) {
            case 0:
                return now.nodes;
            case 1:
                return now.allKeys();
            case 2:
                return keyOfTop(0, last, 0);
            default:
                return now.nodes == 0 ? NONE : now.depths.greatest(0, last);
        }
    }

    private int booksOfTree(int what) {
        switch (what) {
            case 4:
                return now.work;
            case 5:
                return now.funds + FUNDS_ARE_TOLD_FROM;
            case 6:
                return now.paid.total(0, now.nodes - 1);
            case 7:
                return now.rebuildings;
            case 8:
                return now.heaviest;
            case 9:
                return now.leaningNodes();
            default:
                return now.settings.at(what - 10);
        }
    }

    private int keyOfTop(int low, int high, int depth) {
        return low > high ? NONE : now.keys.at(now.topBetween(low, high, depth));
    }

    private int answerToOrder() {
        int key = reader.keyOfOrder();
        switch (reader.sign) {
            case '+':
                return now.enter(key, reader.valueOfOrder());
            case '-':
                return now.hollowOut(key);
            default:
                return now.layAnewFromKey(key);
        }
    }

    // ---- floating numbers

    /** For numbers from 0 on; the library that this file keeps to has no function that tells the bits. */
    private static long bitsOfDouble(double number) {
        if (!(number > 0.0)) {
            return 0L;
        }
        double part = number;
        int power = 0;
        for (int step = 0; step < MOST_POWER && part >= 2.0; step++) {
            part = part / 2.0;
            power++;
        }
        for (int step = 0; step < MOST_POWER && part < 1.0; step++) {
            part = part * 2.0;
            power--;
        }
        return ((long) (power + 1023) << 52) + (long) ((part - 1.0) * (double) (1L << 52));
    }

    /** For numbers from 0 to below 2, which shares of a weight are. */
    private static int bitsOfFloat(float number) {
        if (!(number > 0.0f)) {
            return 0;
        }
        float part = number;
        int power = 0;
        for (int step = 0; step < MOST_POWER && part < 1.0f; step++) {
            part = part * 2.0f;
            power--;
        }
        return ((power + 127) << 23) + (int) ((part - 1.0f) * (float) (1 << 23));
    }

    /** A row of numbers that looks at each place itself, so that no use of it can miss that. */
    private static final class Row {
        private final int[] cells;

        Row(int length) {
            cells = new int[length < 0 ? 0 : length];
        }

        int at(int place) {
            return place >= 0 && place < cells.length ? cells[place] : 0;
        }

        void write(int place, int number) {
            if (place >= 0 && place < cells.length) {
                cells[place] = number;
            }
        }

        void become(Row other) {
            System.arraycopy(other.cells, 0, cells, 0, Math.min(cells.length, other.cells.length));
        }

        int total(int low, int high) {
            int total = 0;
            for (int place = low; place <= high && place < cells.length; place++) {
                total += at(place);
            }
            return total;
        }

        int greatest(int low, int high) {
            int greatest = at(low);
            for (int place = low; place <= high && place < cells.length; place++) {
                greatest = Math.max(greatest, at(place));
            }
            return greatest;
        }
    }

    /**
     * All that undo() and restore() bring back. The nodes stand in the order of their keys, each with its depth
     * instead of links to children: what lies from a node downwards is then the span round it in which all others
     * are deeper, and its children are the tops of the two sides of this span.
     */
    private static final class Tree {
        final Row settings = new Row(FIRST_SETTINGS.length);
        final Row keys = new Row(MOST_NODES);
        final Row values = new Row(MOST_NODES);
        final Row paid = new Row(MOST_NODES);
        final Row depths = new Row(MOST_NODES);
        final Row full = new Row(MOST_NODES);
        int nodes;
        int work;
        int funds;
        int rebuildings;
        int heaviest;

        Tree() {
            for (int setting = 0; setting < FIRST_SETTINGS.length; setting++) {
                settings.write(setting, FIRST_SETTINGS[setting]);
            }
        }

        void become(Tree other) {
            settings.become(other.settings);
            keys.become(other.keys);
            values.become(other.values);
            paid.become(other.paid);
            depths.become(other.depths);
            full.become(other.full);
            nodes = other.nodes;
            work = other.work;
            funds = other.funds;
            rebuildings = other.rebuildings;
            heaviest = other.heaviest;
        }

        // ---- where nodes are

        /** The place of the first node whose key is not less: there the key is, or would come. */
        int placeOf(int key) {
            int place = 0;
            while (place < nodes && keys.at(place) < key) {
                place++;
            }
            return place;
        }

        int nodeOf(int key) {
            int place = placeOf(key);
            return place < nodes && keys.at(place) == key ? place : NONE;
        }

        int fullNodeOf(int key) {
            int place = nodeOf(key);
            return place != NONE && isFull(place) ? place : NONE;
        }

        boolean isFull(int place) {
            return full.at(place) == 1;
        }

        int allKeys() {
            return full.total(0, nodes - 1);
        }

        int keysAhead(int key) {
            return full.total(0, placeOf(key) - 1);
        }

        int placeOfKth(int k) {
            int ahead = 0;
            for (int place = 0; place < nodes; place++) {
                if (isFull(place)) {
                    if (ahead == k) {
                        return place;
                    }
                    ahead++;
                }
            }
            return NONE;
        }

        /** The first place of what lies from a node downwards. */
        int lowestOf(int place) {
            int lowest = place;
            while (lowest > 0 && depths.at(lowest - 1) > depths.at(place)) {
                lowest--;
            }
            return lowest;
        }

        /** The last place of what lies from a node downwards. */
        int highestOf(int place) {
            int highest = place;
            while (highest < nodes - 1 && depths.at(highest + 1) > depths.at(place)) {
                highest++;
            }
            return highest;
        }

        /** The root of a part: the one node in its span that has the depth of this root. */
        int topBetween(int low, int high, int depth) {
            int top = low;
            while (top < high && depths.at(top) != depth) {
                top++;
            }
            return top;
        }

        // ---- leaning

        boolean isTooHeavy(int left, int right) {
            return 100 * Math.max(left, right) > settings.at(LEAN) * (left + right + 1);
        }

        boolean leans(int place) {
            return isTooHeavy(place - lowestOf(place), highestOf(place) - place);
        }

        int leaningNodes() {
            int leaning = 0;
            for (int place = 0; place < nodes; place++) {
                leaning += leans(place) ? 1 : 0;
            }
            return leaning;
        }

        /** Goes the way of a new node at this place: the first one that would lean with it, or NONE. */
        int wouldLeanWithNewAt(int place) {
            int low = 0;
            int high = nodes - 1;
            for (int depth = 0; depth < MOST_NODES && low <= high; depth++) {
                int top = topBetween(low, high, depth);
                int left = top - low;
                int right = high - top;
                if (place <= top) {
                    left++;
                    high = top - 1;
                } else {
                    right++;
                    low = top + 1;
                }
                if (isTooHeavy(left, right)) {
                    return top;
                }
            }
            return NONE;
        }

        int costOf(int key) {
            if (nodeOf(key) != NONE) {
                return 0;
            }
            int leaning = wouldLeanWithNewAt(placeOf(key));
            return leaning == NONE ? 0 : highestOf(leaning) - lowestOf(leaning) + 2;
        }

        // ---- changes

        boolean hasRoomFor(int key) {
            return nodes < MOST_NODES || nodeOf(key) != NONE;
        }

        int enter(int key, int value) {
            if (!hasRoomFor(key)) {
                return TOO_MANY;
            }
            int place = placeOf(key);
            if (nodeOf(key) != NONE) {
                values.write(place, value);
                full.write(place, 1);
                payOnWayTo(place);
                return 0;
            }
            int leaning = wouldLeanWithNewAt(place);
            makeNode(place, key, value);
            payOnWayTo(place);
            if (leaning == NONE) {
                return 0;
            }
            return layAnew(leaning < place ? leaning : leaning + 1);
        }

        int hollowOut(int key) {
            int place = fullNodeOf(key);
            if (place == NONE) {
                return NO_SUCH;
            }
            full.write(place, 0);
            payOnWayTo(place);
            int hollow = nodes - allKeys();
            return 100 * hollow > settings.at(HOLLOW) * nodes ? layAnew(topBetween(0, nodes - 1, 0)) : 0;
        }

        int layAnewFromKey(int key) {
            int place = nodeOf(key);
            return place == NONE ? NO_SUCH : layAnew(place);
        }

        private void payOnWayTo(int place) {
            int low = 0;
            int high = nodes - 1;
            for (int depth = 0; depth < MOST_NODES && low <= high; depth++) {
                int top = topBetween(low, high, depth);
                paid.write(top, paid.at(top) + settings.at(PAY));
                low = top < place ? top + 1 : low;
                high = top > place ? top - 1 : high;
                if (top == place) {
                    return;
                }
            }
        }

        private void makeNode(int place, int key, int value) {
            // Of two neighbours one lies below the other; only the deeper one has no child between them.
            int before = place > 0 ? depths.at(place - 1) : -1;
            int behind = place < nodes ? depths.at(place) : -1;
            for (int free = nodes; free > place; free--) {
                moveNode(free - 1, free);
            }
            nodes++;
            keys.write(place, key);
            values.write(place, value);
            paid.write(place, 0);
            depths.write(place, Math.max(before, behind) + 1);
            full.write(place, 1);
        }

        private void moveNode(int from, int to) {
            keys.write(to, keys.at(from));
            values.write(to, values.at(from));
            paid.write(to, paid.at(from));
            depths.write(to, depths.at(from));
            full.write(to, full.at(from));
        }

        private int layAnew(int place) {
            int low = lowestOf(place);
            int high = highestOf(place);
            int depth = depths.at(place);
            int weight = high - low + 1;
            spend(paid.total(low, high), weight);
            int number = full.total(low, high);
            dropHollow(low, high);
            for (int next = 0; next < number; next++) {
                depths.write(low + next, depth + depthLaidEvenly(next, number));
                paid.write(low + next, 0);
            }
            return weight;
        }

        private void spend(int wasPaid, int weight) {
            funds += wasPaid - weight;
            work += weight;
            rebuildings++;
            heaviest = Math.max(heaviest, weight);
        }

        private void dropHollow(int low, int high) {
            int kept = low;
            for (int place = low; place < nodes; place++) {
                if (place > high || isFull(place)) {
                    moveNode(place, kept);
                    kept++;
                }
            }
            nodes = kept;
        }

        /** How deep the next one in order comes to lie below the root, if so many are laid evenly. */
        private static int depthLaidEvenly(int next, int number) {
            int low = 0;
            int high = number - 1;
            int depth = 0;
            while (low < high && depth < number) {
                int root = low + (high - low) / 2;
                if (next == root) {
                    return depth;
                }
                low = next > root ? root + 1 : low;
                high = next < root ? root - 1 : high;
                depth++;
            }
            return depth;
        }
    }

    /** The states ahead of the latest changes, made once and written over again and again. */
    private static final class History {
        private final Tree[] states = new Tree[MOST_UNDO];
        int length;

        History() {
            for (int place = 0; place < states.length; place++) {
                states[place] = new Tree();
            }
        }

        void keep(Tree now) {
            if (length >= states.length) {
                turn();
            }
            Tree state = stateAt(length);
            if (state != null) {
                state.become(now);
                length++;
            }
        }

        boolean takeBackInto(Tree now) {
            Tree state = stateAt(length - 1);
            if (state == null) {
                return false;
            }
            now.become(state);
            length--;
            return true;
        }

        /** The oldest state gives its room to the next one. */
        private void turn() {
            Tree oldest = stateAt(0);
            for (int place = 1; place < states.length; place++) {
                states[place - 1] = states[place];
            }
            length = states.length - 1;
            if (length >= 0) {
                states[length] = oldest;
            }
        }

        private Tree stateAt(int place) {
            return place >= 0 && place < states.length ? states[place] : null;
        }
    }

    private static final class Slot {
        final Tree tree = new Tree();
        boolean isSaved;
    }

    private static final class Pad {
        final Row codes = new Row(MOST_CHARACTERS);
        int length;

        /** How many characters a number gives, 0 if it gives none or is wrong. */
        static int charactersIn(long characters) {
            for (int number = 0; number < MOST_CHARACTERS_AT_ONCE; number++) {
                int code = codeFromEnd(characters, number);
                if (code == 0) {
                    return characters >>> (8 * number) == 0L ? number : 0;
                }
                if (code < 33 || code > 126) {
                    return 0;
                }
            }
            return MOST_CHARACTERS_AT_ONCE;
        }

        void append(long characters, int number) {
            for (int left = number - 1; left >= 0; left--) {
                codes.write(length, codeFromEnd(characters, left));
                length++;
            }
        }

        private static int codeFromEnd(long characters, int place) {
            return (int) (characters >>> (8 * place)) & 255;
        }
    }

    /** Reads the orders of a text, one character after the other. */
    private static final class OrderReader {
        private static final int AT_SIGN = 0, AT_NUMBER = 1, IN_NUMBER = 2;

        int sign;
        private int stage;
        private int key;
        private int number;
        private boolean hasValue;

        void begin() {
            stage = AT_SIGN;
        }

        /** Whether the character can stand at its place; a reader that refused one has to begin again. */
        boolean takes(int code) {
            switch (stage) {
                case AT_SIGN:
                    return takesSign(code);
                case AT_NUMBER:
                    return takesFirstDigit(code);
                default:
                    return takesDigit(code) || takesEqualsSign(code) || takesEndOfOrder(code);
            }
        }

        boolean hasWholeOrder() {
            return stage == IN_NUMBER;
        }

        int keyOfOrder() {
            return hasValue ? key : number;
        }

        /** The last number of an order: without a value it is the key, which is the value then. */
        int valueOfOrder() {
            return number;
        }

        private boolean takesSign(int code) {
            if (code != '+' && code != '-' && code != '!') {
                return false;
            }
            sign = code;
            hasValue = false;
            stage = AT_NUMBER;
            return true;
        }

        private boolean takesFirstDigit(int code) {
            if (!isDigit(code)) {
                return false;
            }
            number = code - '0';
            stage = IN_NUMBER;
            return true;
        }

        private boolean takesDigit(int code) {
            // A number that is 0 so far is a leading zero for any further digit.
            if (!isDigit(code) || number == 0) {
                return false;
            }
            int longer = 10 * number + code - '0';
            if (longer > MOST_NUMBER) {
                return false;
            }
            number = longer;
            return true;
        }

        private boolean takesEqualsSign(int code) {
            if (code != '=' || sign != '+' || hasValue) {
                return false;
            }
            key = number;
            hasValue = true;
            stage = AT_NUMBER;
            return true;
        }

        private boolean takesEndOfOrder(int code) {
            if (code != ';') {
                return false;
            }
            stage = AT_SIGN;
            return true;
        }

        private static boolean isDigit(int code) {
            return code >= '0' && code <= '9';
        }
    }
}
