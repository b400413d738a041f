/**
 * A set of triples that is asked for by any of their parts. The promises that the comments name are
 * those of the document.
 *
 * <p>The set is held three times, sorted by each of the document's orders. In the order of a mask
 * the told parts come first, so the triples that match a pattern stand side by side there: counts,
 * cursors and walks are all answered from two ends that are found by halving.
 */
public final class TripleTrees {
    public static final int NONE = -1, FULL = -2, STALE = -3;

    private static final int MOST = 700;
    private static final int PARTS = 3;
    private static final int MASKS = 8;
    private static final int CURSORS = 8;

    private static final int O = 2;
    private static final int MASK_P = 2, MASK_SP = 3, MASK_PO = 6, MASK_SPO = 7;
    private static final int BY_S = 0, BY_P = 1;
    private static final int[] ORDER_OF_MASK = {0, 0, 1, 0, 2, 2, 1, 0};

    /** What placeOf and placeTold look for: the first triple not below the told parts, or above. */
    private static final int NOT_BELOW = 0, ABOVE = 1;

    /** Far more halvings than 700 triples can need. */
    private static final int HALVINGS = 32;

    private final Order[] orders;
    private final Cursor[] cursors;
    private final Walk walk;
    private int changed;

    public TripleTrees() {
        orders = new Order[PARTS];
        for (int i = 0; i < orders.length; i++) {
            orders[i] = new Order(i);
        }
        cursors = new Cursor[CURSORS];
        for (int i = 0; i < cursors.length; i++) {
            cursors[i] = new Cursor();
        }
        walk = new Walk();
    }

    public int add(int s, int p, int o) {
        if (matching(MASK_SPO, s, p, o) > 0) {
            return 0;
        }
        if (orders[BY_S].count >= MOST) {
            return FULL;
        }
        for (int i = 0; i < orders.length; i++) {
            orders[i].insert(s, p, o);
        }
        changed++;
        return 1;
    }

    public boolean remove(int s, int p, int o) {
        return removeMatching(MASK_SPO, s, p, o) > 0;
    }

    public int removeAll(int mask, int s, int p, int o) {
        return isMask(mask) ? removeMatching(mask, s, p, o) : NONE;
    }

    public boolean holds(int s, int p, int o) {
        return matching(MASK_SPO, s, p, o) > 0;
    }

    public int open(int mask, int s, int p, int o) {
        if (!isMask(mask)) {
            return NONE;
        }
        for (int i = 0; i < cursors.length; i++) {
            if (!cursors[i].isOpen) {
                int start = startOf(mask, s, p, o);
                int end = endOf(mask, s, p, o);
                cursors[i].begin(ORDER_OF_MASK[mask], start, end, changed);
                return i;
            }
        }
        return FULL;
    }

    public int next(int cursor) {
        if (!isOpenCursor(cursor)) {
            return NONE;
        }
        return isStale(cursor) ? STALE : cursors[cursor].goOn();
    }

    public int seek(int cursor, int a, int b, int c) {
        if (!isOpenCursor(cursor)) {
            return NONE;
        }
        if (isStale(cursor)) {
            return STALE;
        }
        Cursor it = cursors[cursor];
        it.skipTo(orders[it.order].placeTold(PARTS, a, b, c, NOT_BELOW));
        return it.goOn();
    }

    public int part(int cursor, int i) {
        if (!isOpenCursor(cursor) || isStale(cursor) || !cursors[cursor].hasCurrent) {
            return 0;
        }
        Cursor it = cursors[cursor];
        return orders[it.order].partAt(it.following - 1, i);
    }

    public boolean close(int cursor) {
        if (!isOpenCursor(cursor)) {
            return false;
        }
        cursors[cursor].isOpen = false;
        return true;
    }

    public int many(int mask, int s, int p, int o) {
        return isMask(mask) ? matching(mask, s, p, o) : NONE;
    }

    public int at(int order, int k, int i) {
        return isOrder(order) ? orders[order].partAt(k, i) : 0;
    }

    public int before(int order, int s, int p, int o) {
        return isOrder(order) ? orders[order].placeOf(PARTS, s, p, o, NOT_BELOW) : NONE;
    }

    public int different(int part) {
        // Each part is the first one of the order that has its number.
        return isOrder(part) ? orders[part].differentFirsts() : NONE;
    }

    public int chains(int p, int q) {
        int pairs = 0;
        int end = endOf(MASK_P, 0, p, 0);
        for (int k = startOf(MASK_P, 0, p, 0); k < end; k++) {
            pairs += matching(MASK_SP, orders[BY_P].partAt(k, O), q, 0);
        }
        return pairs;
    }

    public int far(int p, int from, int to) {
        walkAll(p, from);
        return walk.stepsTo(to);
    }

    public int reached(int p, int from) {
        walkAll(p, from);
        return walk.count;
    }

    public int size() {
        return orders[BY_S].count;
    }

    public int changes() {
        return changed;
    }

    private static boolean isMask(int mask) {
        return mask >= 0 && mask < MASKS;
    }

    private static boolean isOrder(int order) {
        return order >= 0 && order < PARTS;
    }

    private boolean isOpenCursor(int cursor) {
        return cursor >= 0 && cursor < CURSORS && cursors[cursor].isOpen;
    }

    /** Every change counts one up, so a cursor that was opened at another count is stale. */
    private boolean isStale(int cursor) {
        return cursors[cursor].openedAt != changed;
    }

    private int startOf(int mask, int s, int p, int o) {
        return orders[ORDER_OF_MASK[mask]].placeOf(Integer.bitCount(mask), s, p, o, NOT_BELOW);
    }

    private int endOf(int mask, int s, int p, int o) {
        return orders[ORDER_OF_MASK[mask]].placeOf(Integer.bitCount(mask), s, p, o, ABOVE);
    }

    private int matching(int mask, int s, int p, int o) {
        return endOf(mask, s, p, o) - startOf(mask, s, p, o);
    }

    private int removeMatching(int mask, int s, int p, int o) {
        Order order = orders[ORDER_OF_MASK[mask]];
        int start = startOf(mask, s, p, o);
        int end = endOf(mask, s, p, o);
        // From the last one down: what goes moves only those that have been looked at already.
        for (int k = end - 1; k >= start; k--) {
            removeOne(order.partAt(k, 0), order.partAt(k, 1), order.partAt(k, 2));
        }
        return end - start;
    }

    /** Only for a triple that is there. */
    private void removeOne(int s, int p, int o) {
        for (int i = 0; i < orders.length; i++) {
            orders[i].cut(orders[i].placeOf(PARTS, s, p, o, NOT_BELOW));
        }
        changed++;
    }

    /** Leaves in the walk every int that can be come to, the nearest first. */
    private void walkAll(int p, int from) {
        walk.clear(startOf(MASK_P, 0, p, 0), endOf(MASK_P, 0, p, 0));
        // Where no triple with p leads to it, the mark would be another int's.
        if (matching(MASK_PO, 0, p, from) > 0) {
            walk.mark(markOf(p, from));
        }
        walk.comeTo(from, 0);
        for (int i = 0; i < walk.count && i <= MOST; i++) {
            walkOn(p, walk.ints[i], walk.steps[i] + 1);
        }
    }

    private void walkOn(int p, int from, int steps) {
        int end = endOf(MASK_SP, from, p, 0);
        for (int k = startOf(MASK_SP, from, p, 0); k < end; k++) {
            int to = orders[BY_S].partAt(k, O);
            if (walk.mark(markOf(p, to))) {
                walk.comeTo(to, steps);
            }
        }
    }

    /** An int that triples with p lead to has one place of its own: the first of those triples. */
    private int markOf(int p, int to) {
        return startOf(MASK_PO, 0, p, to);
    }

    /** All triples, sorted. Part i of the order is part (turn + i) % 3 of a triple. */
    private static final class Order {
        private final int turn;
        private final int[] parts = new int[PARTS * MOST];
        private int count;

        Order(int turn) {
            this.turn = turn;
        }

        /** Part 0 s, 1 p, 2 o of the triple at a place; 0 where there is none such. */
        int partAt(int place, int part) {
            if (place < 0 || place >= count || part < 0 || part >= PARTS) {
                return 0;
            }
            return parts[PARTS * place + (part - turn + PARTS) % PARTS];
        }

        /** As placeTold, with the parts told as s, p, o. */
        int placeOf(int told, int s, int p, int o, int least) {
            return placeTold(told, turned(0, s, p, o), turned(1, s, p, o), turned(2, s, p, o), least);
        }

        /** The first place whose first told parts are not below (or: are above) a, b, c. */
        int placeTold(int told, int a, int b, int c, int least) {
            int low = 0;
            int high = count;
            for (int i = 0; i < HALVINGS && low < high; i++) {
                int middle = (low + high) / 2;
                if (compareAt(middle, told, a, b, c) < least) {
                    low = middle + 1;
                } else {
                    high = middle;
                }
            }
            return low;
        }

        int differentFirsts() {
            int different = 0;
            for (int k = 0; k < count; k++) {
                if (k == 0 || parts[PARTS * k] != parts[PARTS * (k - 1)]) {
                    different++;
                }
            }
            return different;
        }

        /** Only for a triple that is not there. */
        void insert(int s, int p, int o) {
            if (count >= MOST) {
                return;
            }
            int place = placeOf(PARTS, s, p, o, NOT_BELOW);
            int start = PARTS * place;
            System.arraycopy(parts, start, parts, start + PARTS, PARTS * (count - place));
            for (int i = 0; i < PARTS; i++) {
                parts[start + i] = turned(i, s, p, o);
            }
            count++;
        }

        void cut(int place) {
            if (place < 0 || place >= count) {
                return;
            }
            int start = PARTS * place;
            System.arraycopy(parts, start + PARTS, parts, start, PARTS * (count - place - 1));
            count--;
        }

        private int turned(int i, int s, int p, int o) {
            int part = (turn + i) % PARTS;
            if (part == 0) {
                return s;
            }
            return part == 1 ? p : o;
        }

        /** -1, 0 or 1, by the first told parts alone; differences of ints could wrap around. */
        private int compareAt(int place, int told, int a, int b, int c) {
            int start = PARTS * place;
            if (told > 0 && parts[start] != a) {
                return parts[start] < a ? -1 : 1;
            }
            if (told > 1 && parts[start + 1] != b) {
                return parts[start + 1] < b ? -1 : 1;
            }
            if (told > 2 && parts[start + 2] != c) {
                return parts[start + 2] < c ? -1 : 1;
            }
            return 0;
        }
    }

    /** Places in an order are good for as long as the cursor is not stale: nothing moves till then. */
    private static final class Cursor {
        private boolean isOpen;
        private boolean hasCurrent;
        private int order;
        private int openedAt;
        private int following;
        private int end;

        void begin(int order, int start, int end, int openedAt) {
            this.order = order;
            this.following = start;
            this.end = end;
            this.openedAt = openedAt;
            isOpen = true;
            hasCurrent = false;
        }

        void skipTo(int place) {
            following = Math.min(Math.max(following, place), end);
        }

        int goOn() {
            hasCurrent = following < end;
            if (!hasCurrent) {
                return 0;
            }
            following++;
            return 1;
        }
    }

    /** Rows that far() and reached() use again in each call. */
    private static final class Walk {
        /** One more than there are triples: the int that the walk begins at. */
        private final int[] ints = new int[MOST + 1];
        private final int[] steps = new int[MOST + 1];
        private final boolean[] marked = new boolean[MOST];
        private int count;

        void clear(int start, int end) {
            count = 0;
            for (int i = Math.max(start, 0); i < end && i < MOST; i++) {
                marked[i] = false;
            }
        }

        /** Whether the mark is new. */
        boolean mark(int place) {
            if (place < 0 || place >= MOST || marked[place]) {
                return false;
            }
            marked[place] = true;
            return true;
        }

        void comeTo(int number, int stepsThere) {
            if (count <= MOST) {
                ints[count] = number;
                steps[count] = stepsThere;
                count++;
            }
        }

        int stepsTo(int number) {
            for (int i = 0; i < count && i <= MOST; i++) {
                if (ints[i] == number) {
                    return steps[i];
                }
            }
            return NONE;
        }
    }
}
