/** Promises 11 to 14: counts and places. */
public final class CountTest {
    private static final int NONE = TripleTrees.NONE;
    private static final int MIN = Integer.MIN_VALUE, MAX = Integer.MAX_VALUE;
    private static final int[] NO_ORDERS = {-1, 3, 4, MIN, MAX};

    /** In the order in which they come; below in each order, by their numbers here. */
    private static final int[][] TRIPLES = {{5, -1, 2}, {-3, 7, 2}, {5, 7, MIN}, {MAX, -1, 0}, {MIN, 7, 2}, {5, -1, -4}};
    private static final int[][] SORTED = {{4, 1, 5, 0, 2, 3}, {5, 3, 0, 2, 4, 1}, {2, 5, 3, 4, 1, 0}};

    private CountTest() {}

    public static void main(String[] args) {
        many();
        at();
        before();
        different();
        Check.end();
    }

    private static TripleTrees filled() {
        TripleTrees x = new TripleTrees();
        for (int[] t : TRIPLES) {
            x.add(t[0], t[1], t[2]);
        }
        return x;
    }

    private static void many() {
        TripleTrees x = filled();
        Check.due("11: many of all", x.many(0, 1, 1, 1), 6);
        Check.due("11: many by s", x.many(1, 5, 1, 1), 3);
        Check.due("11: many by p", x.many(2, 1, 7, 1), 3);
        Check.due("11: many by s, p", x.many(3, 5, -1, 1), 2);
        Check.due("11: many by o", x.many(4, 1, 1, 2), 3);
        Check.due("11: many by s, o", x.many(5, 5, 1, 2), 1);
        Check.due("11: many by p, o", x.many(6, 1, 7, 2), 2);
        Check.due("11: many by all", x.many(7, 5, -1, 2), 1);
        Check.due("11: many of none by s", x.many(1, 4, -1, 2), 0);
        Check.due("11: many of none by p", x.many(2, 5, 0, 2), 0);
        Check.due("11: many of none by s, p", x.many(3, -3, -1, 2), 0);
        Check.due("11: many of none by o", x.many(4, 5, -1, 3), 0);
        Check.due("11: many of none by s, o", x.many(5, MAX, -1, 2), 0);
        Check.due("11: many of none by p, o", x.many(6, 5, 7, 0), 0);
        Check.due("11: many of none by all", x.many(7, 5, -1, 3), 0);
        Check.due("11: many by the least s", x.many(1, MIN, 0, 0), 1);
        Check.due("11: many by the greatest s", x.many(1, MAX, 0, 0), 1);
        Check.due("11: many by the least o", x.many(4, 0, 0, MIN), 1);
        for (int mask : new int[] {-1, 8, 15, MIN, MAX}) {
            Check.due("11: many by mask " + mask, x.many(mask, 5, -1, 2), NONE);
        }
    }

    private static void at() {
        TripleTrees x = filled();
        for (int order = 0; order < 3; order++) {
            for (int k = 0; k < 6; k++) {
                for (int i = 0; i < 3; i++) {
                    Check.due("12: at(" + order + ", " + k + ", " + i + ")", x.at(order, k, i),
                        TRIPLES[SORTED[order][k]][i]);
                }
                for (int i : NO_ORDERS) {
                    Check.due("12: at, part " + i, x.at(order, k, i), 0);
                }
            }
            for (int k : new int[] {-1, 6, 7, 699, 700, MIN, MAX}) {
                Check.due("12: at, place " + k, x.at(order, k, 0), 0);
            }
        }
        for (int order : NO_ORDERS) {
            Check.due("12: at, order " + order, x.at(order, 0, 0), 0);
        }
        x.remove(MAX, -1, 0);
        Check.due("12: at where the last one went", x.at(0, 5, 0), 0);
        Check.due("12: at where those behind moved", x.at(1, 1, 2), 2);
    }

    private static void before() {
        TripleTrees x = filled();
        for (int order = 0; order < 3; order++) {
            for (int k = 0; k < 6; k++) {
                int[] t = TRIPLES[SORTED[order][k]];
                Check.due("13: before one that is there", x.before(order, t[0], t[1], t[2]), k);
            }
            Check.due("13: before the least", x.before(order, MIN, MIN, MIN), 0);
            Check.due("13: before the greatest", x.before(order, MAX, MAX, MAX), 6);
        }
        Check.due("13: before one that is not there, by s", x.before(0, 5, -1, 1), 3);
        Check.due("13: before one that is not there, by p", x.before(1, 5, -1, 1), 2);
        Check.due("13: before one that is not there, by o", x.before(2, 5, -1, 1), 3);
        for (int order : NO_ORDERS) {
            Check.due("13: before, order " + order, x.before(order, 5, -1, 2), NONE);
        }
    }

    private static void different() {
        TripleTrees x = filled();
        Check.due("14: different s", x.different(0), 4);
        Check.due("14: different p", x.different(1), 2);
        Check.due("14: different o", x.different(2), 4);
        x.removeAll(2, 0, 7, 0);
        Check.due("14: different s after removeAll", x.different(0), 2);
        Check.due("14: different p after removeAll", x.different(1), 1);
        Check.due("14: different o after removeAll", x.different(2), 3);
        for (int part : NO_ORDERS) {
            Check.due("14: different of part " + part, x.different(part), NONE);
        }
        x.removeAll(0, 0, 0, 0);
        for (int part = 0; part < 3; part++) {
            Check.due("14: different of none", x.different(part), 0);
        }
    }
}
