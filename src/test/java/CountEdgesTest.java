/** The boundary cases of promises 11 to 14: each method tests the sentence above it. */
public final class CountEdgesTest {
    private static final int NONE = TripleTrees.NONE;
    private static final int MIN = Edges.MIN, MAX = Edges.MAX;

    private CountEdgesTest() {}

    public static void main(String[] args) {
        manyByNoMask();
        manyOfNone();
        manyByTheLeastAndTheGreatest();
        manyLooksAtToldPartsAlone();
        atNoOrder();
        atNoPlace();
        atNoPart();
        atTheFirstAndTheLast();
        beforeNoOrder();
        beforeTheFirstAndBehindTheLast();
        beforeOneThatIsThereOrNot();
        beforeComparesPartAfterPart();
        differentOfNoPart();
        differentOfNone();
        differentOfOneAndOfAll();
        Check.end();
    }

    /** 11: "NONE: no such mask", in a set with triples and in one without. */
    private static void manyByNoMask() {
        TripleTrees x = Edges.corners();
        TripleTrees empty = new TripleTrees();
        for (int mask : Edges.NO_MASKS) {
            Check.due("11: many by mask " + mask, x.many(mask, MIN, MIN, MIN), NONE);
            Check.due("11: many in an empty set by mask " + mask, empty.many(mask, 0, 0, 0), NONE);
        }
    }

    /** 11: "How many triples match": 0 where none does. */
    private static void manyOfNone() {
        TripleTrees x = Edges.corners();
        TripleTrees empty = new TripleTrees();
        for (int mask = 0; mask < 8; mask++) {
            Check.due("11: many in an empty set", empty.many(mask, 0, 0, 0), 0);
            for (int v : new int[] {MIN + 1, 0, MAX - 1}) {
                Check.due("11: many of none by mask " + mask, x.many(mask, v, v, v), mask == 0 ? 8 : 0);
            }
        }
        x.remove(MIN, MAX, MAX);
        Check.due("11: many of the one that went", x.many(7, MIN, MAX, MAX), 0);
    }

    /** 11 and Terms: a part that is the least or the greatest int is one like any other. */
    private static void manyByTheLeastAndTheGreatest() {
        int[] due = {8, 4, 4, 2, 4, 2, 2, 1};
        TripleTrees x = Edges.corners();
        for (int mask = 0; mask < 8; mask++) {
            for (int i = 0; i < 8; i++) {
                Check.due("11: many of corner " + i + " by mask " + mask,
                    x.many(mask, Edges.corner(i, 4), Edges.corner(i, 2), Edges.corner(i, 1)), due[mask]);
            }
        }
    }

    /** 11 and Terms: the parts that the mask does not have may be any ints. */
    private static void manyLooksAtToldPartsAlone() {
        int[] due = {6, 3, 2, 2, 3, 2, 1, 1};
        TripleTrees x = Edges.with(Edges.t(1, 2, 3), Edges.t(1, 2, 4), Edges.t(1, 5, 3), Edges.t(6, 5, 3),
            Edges.t(6, 5, 4), Edges.t(6, 7, 8));
        for (int mask = 0; mask < 8; mask++) {
            for (int untold : new int[] {MIN, 0, 1, 2, 3, MAX}) {
                int s = (mask & 1) == 0 ? untold : 1;
                int p = (mask & 2) == 0 ? untold : 2;
                int o = (mask & 4) == 0 ? untold : 3;
                Check.due("11: many by mask " + mask + ", the others " + untold, x.many(mask, s, p, o), due[mask]);
            }
        }
    }

    /** 12: "0: none such", an order that there is not. */
    private static void atNoOrder() {
        TripleTrees x = Edges.corners();
        for (int order : Edges.NO_THIRDS) {
            for (int i = 0; i < 3; i++) {
                Check.due("12: at in order " + order, x.at(order, 0, i), 0);
                Check.due("12: at in order " + order + ", the last", x.at(order, 7, i), 0);
            }
        }
    }

    /** 12: "0: none such", a place that there is not; three times some of these wraps around. */
    private static void atNoPlace() {
        int[] noPlaces = {-1, -2, -3, 8, 9, 699, 700, 701, 1431655765, 1431655766, 1 << 30, -1431655765,
            -1431655764, MIN, MIN + 1, MAX};
        TripleTrees x = Edges.corners();
        for (int k : noPlaces) {
            for (int order = 0; order < 3; order++) {
                for (int i = 0; i < 3; i++) {
                    Check.due("12: at place " + k + " in order " + order, x.at(order, k, i), 0);
                }
            }
        }
        x.removeAll(0, 0, 0, 0);
        for (int k = 0; k < 9; k++) {
            Check.due("12: at place " + k + " when all went", x.at(k % 3, k, k % 3), 0);
        }
    }

    /** 12: "0: none such", a part that there is not. */
    private static void atNoPart() {
        TripleTrees x = Edges.corners();
        for (int i : Edges.NO_THIRDS) {
            for (int order = 0; order < 3; order++) {
                Check.due("12: at, part " + i + " of the first", x.at(order, 0, i), 0);
                Check.due("12: at, part " + i + " in the midst", x.at(order, 4, i), 0);
                Check.due("12: at, part " + i + " of the last", x.at(order, 7, i), 0);
            }
        }
    }

    /** 12: "the k-th triple (from 0 on) in an order": 0 is the first, one less than all the last. */
    private static void atTheFirstAndTheLast() {
        TripleTrees x = Edges.corners();
        for (int order = 0; order < 3; order++) {
            for (int k = 0; k < 8; k++) {
                for (int i = 0; i < 3; i++) {
                    Check.due("12: at(" + order + ", " + k + ", part " + (order + i) % 3 + ")",
                        x.at(order, k, (order + i) % 3), Edges.corner(k, 4 >> i));
                }
            }
        }
        TripleTrees one = Edges.with(Edges.t(7, 8, 9));
        for (int order = 0; order < 3; order++) {
            for (int i = 0; i < 3; i++) {
                Check.due("12: at of the only one", one.at(order, 0, i), 7 + i);
                Check.due("12: at behind the only one", one.at(order, 1, i), 0);
                Check.due("12: at before the only one", one.at(order, -1, i), 0);
            }
        }
    }

    /** 13: "NONE: no such order", in a set with triples and in one without. */
    private static void beforeNoOrder() {
        TripleTrees x = Edges.corners();
        TripleTrees empty = new TripleTrees();
        for (int order : Edges.NO_THIRDS) {
            Check.due("13: before in order " + order, x.before(order, 0, 0, 0), NONE);
            Check.due("13: before in order " + order + ", the least", x.before(order, MIN, MIN, MIN), NONE);
            Check.due("13: before in an empty set, order " + order, empty.before(order, 0, 0, 0), NONE);
        }
    }

    /** 13: "How many triples are before one": none before the least, all before what is behind. */
    private static void beforeTheFirstAndBehindTheLast() {
        TripleTrees x = Edges.with(Edges.t(1, 2, 3), Edges.t(4, 5, 6), Edges.t(-1, -2, -3));
        TripleTrees empty = new TripleTrees();
        for (int order = 0; order < 3; order++) {
            Check.due("13: before the least int", x.before(order, MIN, MIN, MIN), 0);
            Check.due("13: before the greatest int", x.before(order, MAX, MAX, MAX), 3);
            Check.due("13: before the first", x.before(order, -1, -2, -3), 0);
            Check.due("13: before the last", x.before(order, 4, 5, 6), 2);
            Check.due("13: before in an empty set", empty.before(order, 0, 0, 0), 0);
            Check.due("13: before the greatest in an empty set", empty.before(order, MAX, MAX, MAX), 0);
        }
        Check.due("13: one before the first", x.before(0, -1, -2, -4), 0);
        Check.due("13: one behind the first", x.before(0, -1, -2, -2), 1);
        Check.due("13: one behind the last", x.before(0, 4, 5, 7), 3);
    }

    /** 13: "(that may be there or not)": it is not before itself. */
    private static void beforeOneThatIsThereOrNot() {
        int[] turns = {4, 2, 1};
        for (int gone = 0; gone < 8; gone++) {
            TripleTrees x = Edges.corners();
            for (int turn = 0; turn < 2; turn++) {
                for (int order = 0; order < 3; order++) {
                    int k = 0;
                    for (int i = 0; i < 3; i++) {
                        k += (gone & turns[(order + i) % 3]) == 0 ? 0 : turns[i];
                    }
                    Check.due("13: before corner " + gone + " in order " + order,
                        x.before(order, Edges.corner(gone, 4), Edges.corner(gone, 2), Edges.corner(gone, 1)), k);
                }
                x.remove(Edges.corner(gone, 4), Edges.corner(gone, 2), Edges.corner(gone, 1));
            }
        }
    }

    /** 13: "in an order, told as s, p, o": the order's first part that differs decides. */
    private static void beforeComparesPartAfterPart() {
        TripleTrees x = Edges.with(Edges.t(0, 0, 0));
        int[][] told = {{1, MIN, MIN}, {MIN, 1, MIN}, {MIN, MIN, 1}, {MIN, 0, 0}, {0, MIN, 0}, {0, 0, MIN},
            {1, 0, MIN}, {MIN, 1, 0}, {0, MIN, 1}};
        int[][] due = {{1, 0, 0}, {0, 1, 0}, {0, 0, 1}, {0, 0, 0}, {0, 0, 0}, {0, 0, 0},
            {1, 0, 0}, {0, 1, 0}, {0, 0, 1}};
        for (int k = 0; k < told.length; k++) {
            for (int order = 0; order < 3; order++) {
                Check.due("13: before " + k + " in order " + order,
                    x.before(order, told[k][0], told[k][1], told[k][2]), due[k][order]);
            }
        }
    }

    /** 14: "NONE: no such part", in a set with triples and in one without. */
    private static void differentOfNoPart() {
        TripleTrees x = Edges.corners();
        TripleTrees empty = new TripleTrees();
        for (int part : Edges.NO_THIRDS) {
            Check.due("14: different of part " + part, x.different(part), NONE);
            Check.due("14: different in an empty set of part " + part, empty.different(part), NONE);
        }
    }

    /** 14: "How many different": 0 where there are none, also when all went. */
    private static void differentOfNone() {
        TripleTrees x = Edges.corners();
        TripleTrees empty = new TripleTrees();
        x.removeAll(0, 0, 0, 0);
        for (int part = 0; part < 3; part++) {
            Check.due("14: different in an empty set", empty.different(part), 0);
            Check.due("14: different when all went", x.different(part), 0);
        }
    }

    /** 14: "How many different": 1 where all have the same, as many as there are where none has. */
    private static void differentOfOneAndOfAll() {
        for (int part = 0; part < 3; part++) {
            TripleTrees x = new TripleTrees();
            int[] values = {0, MAX, MIN, -1, 1};
            for (int k = 0; k < values.length; k++) {
                int[] t = {0, 0, 0};
                t[part] = values[k];
                x.add(t[0], t[1], t[2]);
                for (int other = 0; other < 3; other++) {
                    Check.due("14: different of part " + other, x.different(other), other == part ? k + 1 : 1);
                }
            }
            x.remove(0, 0, 0);
            Check.due("14: different when one went", x.different(part), 4);
            TripleTrees corners = Edges.corners();
            Check.due("14: different of the least and the greatest", corners.different(part), 2);
            corners.removeAll(1 << part, MIN, MIN, MIN);
            Check.due("14: different of the greatest", corners.different(part), 1);
        }
    }
}
