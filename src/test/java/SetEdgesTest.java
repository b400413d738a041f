/** The boundary cases of promises 1 to 5, 18 and 19: each method tests the sentence above it. */
public final class SetEdgesTest {
    private static final int NONE = TripleTrees.NONE, FULL = TripleTrees.FULL;
    private static final int MIN = Edges.MIN, MAX = Edges.MAX;

    private SetEdgesTest() {}

    public static void main(String[] args) {
        newSetIsEmpty();
        newCursorsAreClosed();
        addWhatIsThere();
        addWhatDiffersInOnePart();
        addAfterItWent();
        addToAFullSet();
        removeWhatIsNotThere();
        removeTheFirstAndTheLast();
        removeAllByNoMask();
        removeAllOfNone();
        removeAllOfAnEmptySet();
        removeAllLooksAtToldPartsAlone();
        removeAllOfAll();
        holdsNoNeighbour();
        sizeAndChangesOfRefusedCalls();
        changesOfEachTriple();
        Check.end();
    }

    /** 1: "An empty set". */
    private static void newSetIsEmpty() {
        TripleTrees x = new TripleTrees();
        Check.due("18: size of an empty set", x.size(), 0);
        Check.due("19: changes of a new set", x.changes(), 0);
        for (int mask = 0; mask < 8; mask++) {
            Check.due("11: many in an empty set by mask " + mask, x.many(mask, 0, 0, 0), 0);
        }
        for (int k = 0; k < 3; k++) {
            Check.due("12: at in an empty set", x.at(k, 0, 0), 0);
            Check.due("13: before in an empty set", x.before(k, MAX, MAX, MAX), 0);
            Check.due("14: different in an empty set", x.different(k), 0);
        }
        for (int v : new int[] {MIN, -1, 0, 1, MAX}) {
            Check.due("5: holds in an empty set", x.holds(v, v, v), false);
            Check.due("3: remove from an empty set", x.remove(v, v, v), false);
            Check.due("15: chains in an empty set", x.chains(v, v), 0);
            Check.due("16: far in an empty set to the same", x.far(v, v, v), 0);
            Check.due("16: far in an empty set", x.far(v, v, v + 1), NONE);
            Check.due("17: reached in an empty set", x.reached(v, v), 1);
        }
        Check.due("18: size is still 0", x.size(), 0);
        Check.due("19: changes are still 0", x.changes(), 0);
    }

    /** 1: "all cursors closed". */
    private static void newCursorsAreClosed() {
        TripleTrees x = new TripleTrees();
        for (int c = 0; c < 8; c++) {
            Check.due("7: next in a new object", x.next(c), NONE);
            Check.due("8: seek in a new object", x.seek(c, 0, 0, 0), NONE);
            Check.due("10: close in a new object", x.close(c), false);
            Edges.dueNoTriple("9: part in a new object", x, c);
        }
        for (int c = 0; c < 8; c++) {
            Check.due("6: open in a new object", x.open(0, 0, 0, 0), c);
        }
    }

    /** 2: "0 when it is there". */
    private static void addWhatIsThere() {
        TripleTrees x = Edges.corners();
        x.add(0, 0, 0);
        int[] was = Edges.image(x);
        for (int i = 0; i < 8; i++) {
            Check.due("2: add of one that is there",
                x.add(Edges.corner(i, 4), Edges.corner(i, 2), Edges.corner(i, 1)), 0);
        }
        Check.due("2: add of (0, 0, 0) that is there", x.add(0, 0, 0), 0);
        Edges.dueUnchanged("2: add of one that is there", x, was);
    }

    /** 2: "A triple comes: 1", whatever stands beside it. */
    private static void addWhatDiffersInOnePart() {
        for (int v : new int[] {MIN, -1, 0, 1, MAX}) {
            TripleTrees x = Edges.with(Edges.t(v, v, v));
            // Beyond the greatest int comes the least: it is another one all the same.
            Check.due("2: add, s one more", x.add(v + 1, v, v), 1);
            Check.due("2: add, p one more", x.add(v, v + 1, v), 1);
            Check.due("2: add, o one more", x.add(v, v, v + 1), 1);
            Check.due("2: add, s one less", x.add(v - 1, v, v), 1);
            Check.due("2: add, p one less", x.add(v, v - 1, v), 1);
            Check.due("2: add, o one less", x.add(v, v, v - 1), 1);
            Check.due("2: add of the first one again", x.add(v, v, v), 0);
            Check.due("18: size of the seven", x.size(), 7);
        }
    }

    /** 2 and 3: what went is not there, and may come again. */
    private static void addAfterItWent() {
        TripleTrees x = new TripleTrees();
        for (int i = 0; i < 3; i++) {
            Check.due("2: add of the only one", x.add(MAX, MIN, 0), 1);
            Check.due("2: add of the only one again", x.add(MAX, MIN, 0), 0);
            Check.due("3: remove of the only one", x.remove(MAX, MIN, 0), true);
            Check.due("3: remove of the only one again", x.remove(MAX, MIN, 0), false);
            Check.due("18: size when it went", x.size(), 0);
            Check.due("19: changes when it went", x.changes(), 2 * i + 2);
        }
    }

    /** 2: "FULL: there are 700"; this takes more than the 512 calls that are promised. */
    private static void addToAFullSet() {
        TripleTrees x = new TripleTrees();
        for (int i = 0; i < 699; i++) {
            x.add(i, 0, 0);
        }
        Check.due("2: add of the 700th", x.add(699, 0, 0), 1);
        int c = x.open(0, 0, 0, 0);
        Check.due("2: add of the 701st", x.add(700, 0, 0), FULL);
        Check.due("2: add of the least, full", x.add(MIN, MIN, MIN), FULL);
        Check.due("2: add of one that is there, full", x.add(699, 0, 0), 0);
        Check.due("5: holds what was refused", x.holds(700, 0, 0), false);
        Check.due("18: size, full", x.size(), 700);
        Check.due("19: changes, full", x.changes(), 700);
        Check.due("7: next after a refused add", x.next(c), 1);
        Check.due("3: remove, full", x.remove(0, 0, 0), true);
        Check.due("2: add when one went", x.add(700, 0, 0), 1);
        Check.due("2: add, full again", x.add(0, 0, 0), FULL);
    }

    /** 3: "False: it is not there". */
    private static void removeWhatIsNotThere() {
        TripleTrees x = Edges.with(Edges.t(5, 6, 7), Edges.t(MIN, 0, MAX));
        int[] was = Edges.image(x);
        Check.due("3: remove, s one less", x.remove(4, 6, 7), false);
        Check.due("3: remove, s one more", x.remove(6, 6, 7), false);
        Check.due("3: remove, p one less", x.remove(5, 5, 7), false);
        Check.due("3: remove, p one more", x.remove(5, 7, 7), false);
        Check.due("3: remove, o one less", x.remove(5, 6, 6), false);
        Check.due("3: remove, o one more", x.remove(5, 6, 8), false);
        Check.due("3: remove, turned", x.remove(6, 7, 5), false);
        Check.due("3: remove, turned twice", x.remove(7, 5, 6), false);
        Check.due("3: remove, s on the other side", x.remove(MAX, 0, MAX), false);
        Check.due("3: remove, o on the other side", x.remove(MIN, 0, MIN), false);
        Edges.dueUnchanged("3: remove of one that is not there", x, was);
    }

    /** 3: "A triple goes", that one and no other. */
    private static void removeTheFirstAndTheLast() {
        for (int gone = 0; gone < 8; gone++) {
            TripleTrees x = Edges.corners();
            Check.due("3: remove of corner " + gone,
                x.remove(Edges.corner(gone, 4), Edges.corner(gone, 2), Edges.corner(gone, 1)), true);
            for (int i = 0; i < 8; i++) {
                int s = Edges.corner(i, 4);
                int p = Edges.corner(i, 2);
                int o = Edges.corner(i, 1);
                Check.due("5: holds corner " + i + " without " + gone, x.holds(s, p, o), i != gone);
                int samePo = i % 4 == gone % 4 ? 1 : 0;
                int sameSo = i % 2 == gone % 2 && i / 4 == gone / 4 ? 1 : 0;
                Check.due("11: many like corner " + i + " by p, o", x.many(6, 0, p, o), 2 - samePo);
                Check.due("11: many like corner " + i + " by s, o", x.many(5, s, 0, o), 2 - sameSo);
            }
            Check.due("18: size without one", x.size(), 7);
        }
    }

    /** 4: "NONE: no such mask". */
    private static void removeAllByNoMask() {
        TripleTrees x = Edges.corners();
        int[] was = Edges.image(x);
        for (int mask : Edges.NO_MASKS) {
            Check.due("4: removeAll by mask " + mask, x.removeAll(mask, MIN, MIN, MIN), NONE);
        }
        Edges.dueUnchanged("4: removeAll by no mask", x, was);
        Check.due("4: removeAll by no mask of an empty set", new TripleTrees().removeAll(8, 0, 0, 0), NONE);
        Check.due("4: removeAll by the mask below 0 of an empty set", new TripleTrees().removeAll(-1, 0, 0, 0), NONE);
    }

    /** 4: "how many": none where none matches. */
    private static void removeAllOfNone() {
        TripleTrees x = Edges.corners();
        int[] was = Edges.image(x);
        for (int mask = 1; mask < 8; mask++) {
            for (int v : new int[] {MIN + 1, -1, 0, 1, MAX - 1}) {
                Check.due("4: removeAll of none by mask " + mask, x.removeAll(mask, v, v, v), 0);
            }
        }
        Edges.dueUnchanged("4: removeAll of none", x, was);
    }

    /** 4: "how many": none where there are none. */
    private static void removeAllOfAnEmptySet() {
        TripleTrees x = new TripleTrees();
        for (int mask = 0; mask < 8; mask++) {
            Check.due("4: removeAll of an empty set by mask " + mask, x.removeAll(mask, 0, 0, 0), 0);
        }
        Check.due("19: changes of an empty set after removeAll", x.changes(), 0);
    }

    /** 4 and Terms: the parts that the mask does not have may be any ints. */
    private static void removeAllLooksAtToldPartsAlone() {
        int[] gone = {8, 4, 4, 2, 4, 2, 2, 1};
        for (int mask = 0; mask < 8; mask++) {
            for (int untold : new int[] {MIN, 0, MAX}) {
                TripleTrees x = Edges.corners();
                int s = (mask & 1) == 0 ? untold : MAX;
                int p = (mask & 2) == 0 ? untold : MIN;
                int o = (mask & 4) == 0 ? untold : MAX;
                Check.due("4: removeAll by mask " + mask, x.removeAll(mask, s, p, o), gone[mask]);
                Check.due("18: size after removeAll by mask " + mask, x.size(), 8 - gone[mask]);
                Check.due("11: many left by mask " + mask, x.many(mask, s, p, o), 0);
                Check.due("4: removeAll again by mask " + mask, x.removeAll(mask, s, p, o), 0);
            }
        }
    }

    /** 4: "All triples that match go", until the set is empty. */
    private static void removeAllOfAll() {
        TripleTrees x = new TripleTrees();
        for (int i = 0; i < 500; i++) {
            x.add(i % 7, i % 11, i);
        }
        Check.due("4: removeAll of 500", x.removeAll(0, MIN, 0, MAX), 500);
        Check.due("18: size after all went", x.size(), 0);
        Check.due("19: changes after all went", x.changes(), 1000);
        Check.due("12: at after all went", x.at(0, 0, 2), 0);
        Check.due("14: different after all went", x.different(2), 0);
        Check.due("4: removeAll after all went", x.removeAll(0, MIN, 0, MAX), 0);
        Check.due("2: add after all went", x.add(0, 0, 0), 1);
        Check.due("5: holds after all went", x.holds(1, 1, 1), false);
        Check.due("18: size of the one that came", x.size(), 1);
    }

    /** 5: "Whether a triple is there". */
    private static void holdsNoNeighbour() {
        for (int v : new int[] {MIN, -1, 0, 1, MAX}) {
            TripleTrees x = Edges.with(Edges.t(v, v, v));
            Check.due("5: holds " + v, x.holds(v, v, v), true);
            for (int d : new int[] {-1, 1, MIN}) {
                Check.due("5: holds, another s", x.holds(v + d, v, v), false);
                Check.due("5: holds, another p", x.holds(v, v + d, v), false);
                Check.due("5: holds, another o", x.holds(v, v, v + d), false);
            }
        }
    }

    /** 18 and 19: what is refused, or only asked, neither comes nor goes. */
    private static void sizeAndChangesOfRefusedCalls() {
        TripleTrees x = Edges.with(Edges.t(0, 0, 0), Edges.t(0, 1, 0), Edges.t(MAX, 0, MIN));
        int[] was = Edges.image(x);
        x.add(0, 1, 0);
        x.remove(1, 1, 1);
        x.removeAll(8, 0, 0, 0);
        x.removeAll(1, 1, 0, 0);
        x.holds(0, 0, 0);
        x.many(0, 0, 0, 0);
        for (int c = -1; c < 9; c++) {
            x.open(c, 0, 0, 0);
        }
        x.next(0);
        x.seek(1, 0, 0, 0);
        x.part(0, 0);
        x.before(0, 0, 0, 0);
        x.different(0);
        x.chains(0, 0);
        x.far(0, 0, 0);
        x.reached(0, MAX);
        x.close(0);
        Edges.dueUnchanged("18, 19: calls that ask or are refused", x, was);
    }

    /** 19: "each triple that came or went counts". */
    private static void changesOfEachTriple() {
        TripleTrees x = Edges.corners();
        Check.due("19: changes of eight that came", x.changes(), 8);
        x.removeAll(4, 0, 0, MIN);
        Check.due("19: changes of four that went at once", x.changes(), 12);
        x.remove(MAX, MAX, MAX);
        Check.due("19: changes of one that went", x.changes(), 13);
        x.add(MAX, MAX, MAX);
        Check.due("19: changes of one that came again", x.changes(), 14);
        x.removeAll(0, 0, 0, 0);
        Check.due("19: changes of all that went", x.changes(), 18);
        Check.due("18: size when all went", x.size(), 0);
    }
}
