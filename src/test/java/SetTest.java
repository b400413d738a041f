/** Promises 1 to 5, 18 and 19: what comes and goes, and how often. */
public final class SetTest {
    private static final int MIN = Integer.MIN_VALUE, MAX = Integer.MAX_VALUE;
    private static final int[] NO_MASKS = {-1, 8, 9, -7, 15, MIN, MAX};

    private SetTest() {}

    public static void main(String[] args) {
        newObject();
        addAndHolds();
        addAtTheLimit();
        remove();
        removeAllByEachMask();
        removeAllWrong();
        changesCountEachTriple();
        objectsAreApart();
        Check.end();
    }

    private static void newObject() {
        TripleTrees x = new TripleTrees();
        Check.due("1: size of a new object", x.size(), 0);
        Check.due("1: changes of a new object", x.changes(), 0);
        Check.due("1: many of a new object", x.many(0, 0, 0, 0), 0);
        Check.due("1: holds(0, 0, 0) of a new object", x.holds(0, 0, 0), false);
        Check.due("1: remove(0, 0, 0) of a new object", x.remove(0, 0, 0), false);
        Check.due("1: removeAll of a new object", x.removeAll(0, 0, 0, 0), 0);
        Check.due("1: at of a new object", x.at(0, 0, 0), 0);
        Check.due("1: before of a new object", x.before(0, MAX, MAX, MAX), 0);
        Check.due("1: different of a new object", x.different(0), 0);
        Check.due("1: chains of a new object", x.chains(0, 0), 0);
        for (int c = 0; c < 8; c++) {
            Check.due("1: next of a new object", x.next(c), TripleTrees.NONE);
            Check.due("1: close of a new object", x.close(c), false);
        }
        Check.due("1: open(0) of a new object", x.open(0, 0, 0, 0), 0);
        Check.due("1: next over a new object", x.next(0), 0);
    }

    private static void addAndHolds() {
        TripleTrees x = new TripleTrees();
        int[][] triples = {{1, 2, 3}, {3, 2, 1}, {2, 3, 1}, {0, 0, 0}, {MIN, MAX, MIN}, {MAX, MIN, MAX},
            {-1, -1, -1}, {1, 2, MAX}, {MIN, 2, 3}};
        for (int i = 0; i < triples.length; i++) {
            int[] t = triples[i];
            Check.due("5: holds before add", x.holds(t[0], t[1], t[2]), false);
            Check.due("2: add", x.add(t[0], t[1], t[2]), 1);
            Check.due("2: add again", x.add(t[0], t[1], t[2]), 0);
            Check.due("5: holds after add", x.holds(t[0], t[1], t[2]), true);
            Check.due("18: size after add", x.size(), i + 1);
            Check.due("19: changes after add", x.changes(), i + 1);
        }
        Check.due("5: holds of another o", x.holds(1, 2, 4), false);
        Check.due("5: holds of another p", x.holds(1, 3, 3), false);
        Check.due("5: holds of another s", x.holds(2, 2, 3), false);
    }

    /** The limit can't be come to in the 512 calls that are promised; it is kept all the same. */
    private static void addAtTheLimit() {
        TripleTrees x = new TripleTrees();
        for (int i = 0; i < 700; i++) {
            Check.due("2: add up to the limit", x.add(i * 7919 % 700, i % 3, -i), 1);
        }
        Check.due("2: add beyond the limit", x.add(-1, 0, 0), TripleTrees.FULL);
        Check.due("2: add of one that is there, at the limit", x.add(0, 0, 0), 0);
        Check.due("18: size at the limit", x.size(), 700);
        Check.due("19: changes at the limit", x.changes(), 700);
        Check.due("16: far at the limit", x.far(0, 0, 1), TripleTrees.NONE);
        Check.due("3: remove at the limit", x.remove(0, 0, 0), true);
        Check.due("2: add where there is room again", x.add(-1, 0, 0), 1);
        Check.due("2: add beyond the limit again", x.add(-2, 0, 0), TripleTrees.FULL);
        Check.due("4: removeAll at the limit", x.removeAll(0, 0, 0, 0), 700);
        Check.due("19: changes after all", x.changes(), 1402);
    }

    private static void remove() {
        TripleTrees x = new TripleTrees();
        x.add(1, 2, 3);
        x.add(1, 2, 4);
        x.add(MIN, MAX, 0);
        Check.due("3: remove of one that is not there", x.remove(1, 2, 5), false);
        Check.due("3: remove of turned parts", x.remove(2, 3, 1), false);
        Check.due("19: changes after no change", x.changes(), 3);
        Check.due("3: remove", x.remove(1, 2, 3), true);
        Check.due("3: remove again", x.remove(1, 2, 3), false);
        Check.due("3: the other one stays", x.holds(1, 2, 4), true);
        Check.due("3: the one gone", x.holds(1, 2, 3), false);
        Check.due("3: remove at the edges", x.remove(MIN, MAX, 0), true);
        Check.due("18: size after remove", x.size(), 1);
        Check.due("19: changes after remove", x.changes(), 5);
        Check.due("2: add after remove", x.add(1, 2, 3), 1);
        Check.due("19: changes after it came again", x.changes(), 6);
    }

    /** In a cube of 27 triples, each told part leaves a third. */
    private static TripleTrees cube() {
        TripleTrees x = new TripleTrees();
        for (int i = 0; i < 27; i++) {
            x.add(i % 3, i / 3 % 3, i / 9);
        }
        return x;
    }

    private static void removeAllByEachMask() {
        int[] gone = {27, 9, 9, 3, 9, 3, 3, 1};
        for (int mask = 0; mask < 8; mask++) {
            TripleTrees x = cube();
            Check.due("4: removeAll", x.removeAll(mask, 0, 1, 2), gone[mask]);
            Check.due("4: removeAll again", x.removeAll(mask, 0, 1, 2), 0);
            Check.due("18: size after removeAll", x.size(), 27 - gone[mask]);
            Check.due("19: changes after removeAll", x.changes(), 27 + gone[mask]);
            for (int i = 0; i < 27; i++) {
                int s = i % 3;
                int p = i / 3 % 3;
                int o = i / 9;
                boolean goes = ((mask & 1) == 0 || s == 0) && ((mask & 2) == 0 || p == 1)
                    && ((mask & 4) == 0 || o == 2);
                Check.due("4: holds after removeAll by mask " + mask, x.holds(s, p, o), !goes);
            }
        }
    }

    private static void removeAllWrong() {
        TripleTrees x = cube();
        for (int mask : NO_MASKS) {
            Check.due("4: removeAll by mask " + mask, x.removeAll(mask, 0, 1, 2), TripleTrees.NONE);
        }
        Check.due("4: removeAll of none", x.removeAll(1, 3, 0, 0), 0);
        Check.due("18: size after wrong masks", x.size(), 27);
        Check.due("19: changes after wrong masks", x.changes(), 27);
    }

    private static void changesCountEachTriple() {
        TripleTrees x = cube();
        x.add(0, 0, 0);
        x.holds(0, 0, 0);
        x.open(0, 0, 0, 0);
        x.next(0);
        x.close(0);
        Check.due("19: changes by calls that change nothing", x.changes(), 27);
        x.removeAll(6, 0, 1, 1);
        x.add(0, 1, 1);
        Check.due("19: changes", x.changes(), 31);
        Check.due("18: size", x.size(), 25);
    }

    private static void objectsAreApart() {
        TripleTrees x = new TripleTrees();
        TripleTrees y = new TripleTrees();
        x.add(1, 2, 3);
        x.open(0, 0, 0, 0);
        Check.due("1: another object's size", y.size(), 0);
        Check.due("1: another object's cursor", y.next(0), TripleTrees.NONE);
        Check.due("1: another object's changes", y.changes(), 0);
    }
}
