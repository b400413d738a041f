/** The boundary cases of promises 15 to 17: each method tests the sentence above it. */
public final class ChainEdgesTest {
    private static final int NONE = TripleTrees.NONE;
    private static final int MIN = Edges.MIN, MAX = Edges.MAX;

    private ChainEdgesTest() {}

    public static void main(String[] args) {
        chainsOfNone();
        chainsDoNotWrapAround();
        chainsOfTheLeastAndTheGreatest();
        chainsOfATripleThatLeadsToItself();
        chainsOfAsManyAsThereCanBe();
        farToTheSame();
        farNowhere();
        farAgainstTheWay();
        farBackToWhereItBegan();
        farOfTheLeastAndTheGreatest();
        farAlongAnotherP();
        farInTheLastCall();
        reachedOfItselfAlone();
        reachedBackToWhereItBegan();
        reachedTwice();
        reachedOfAsManyAsThereCanBe();
        walksOneAfterAnother();
        walksAfterAllWent();
        Check.end();
    }

    /** 15: "How many pairs of triples there are": 0 where one of the two is not there. */
    private static void chainsOfNone() {
        TripleTrees x = Edges.with(Edges.t(1, 5, 2), Edges.t(2, 6, 3));
        Check.due("15: chains in an empty set", new TripleTrees().chains(5, 5), 0);
        Check.due("15: chains of both", x.chains(5, 6), 1);
        Check.due("15: chains turned", x.chains(6, 5), 0);
        Check.due("15: chains of the first alone", x.chains(5, 5), 0);
        Check.due("15: chains of the second alone", x.chains(6, 6), 0);
        for (int p : new int[] {MIN, 4, 7, MAX}) {
            Check.due("15: chains, no such p", x.chains(p, 6), 0);
            Check.due("15: chains, no such q", x.chains(5, p), 0);
            Check.due("15: chains, neither", x.chains(p, p), 0);
        }
        x.remove(2, 6, 3);
        Check.due("15: chains when the second went", x.chains(5, 6), 0);
    }

    /** 15: "where the o of the first is the s of the second": one beside it is not. */
    private static void chainsDoNotWrapAround() {
        for (int v : new int[] {MIN, -1, 0, 1, MAX}) {
            TripleTrees x = Edges.with(Edges.t(7, 5, v), Edges.t(v + 1, 6, 7), Edges.t(v - 1, 6, 7));
            Check.due("15: chains of those beside " + v, x.chains(5, 6), 0);
            x.add(v, 6, 7);
            Check.due("15: chains of " + v, x.chains(5, 6), 1);
        }
    }

    /** 15: any ints will do as p and q, and as what joins the two. */
    private static void chainsOfTheLeastAndTheGreatest() {
        TripleTrees x = Edges.corners();
        for (int p : new int[] {MIN, MAX}) {
            for (int q : new int[] {MIN, MAX}) {
                // Four have p, each leads to an int where two with q begin.
                Check.due("15: chains(" + p + ", " + q + ")", x.chains(p, q), 8);
            }
            Check.due("15: chains(" + p + ", 0)", x.chains(p, 0), 0);
            Check.due("15: chains(0, " + p + ")", x.chains(0, p), 0);
        }
    }

    /** 15: "pairs of triples": nothing says that they are two; the document's words are kept. */
    private static void chainsOfATripleThatLeadsToItself() {
        TripleTrees x = Edges.with(Edges.t(0, 0, 0));
        Check.due("15: chains of one that leads to itself", x.chains(0, 0), 1);
        x.add(0, 0, 1);
        Check.due("15: chains of that one and one more", x.chains(0, 0), 2);
        x.add(0, 1, 0);
        Check.due("15: chains into another p", x.chains(0, 1), 1);
        Check.due("15: chains out of another p", x.chains(1, 0), 2);
        Check.due("15: chains of another p", x.chains(1, 1), 1);
    }

    /** 15: as many pairs as 511 calls can make. */
    private static void chainsOfAsManyAsThereCanBe() {
        TripleTrees x = new TripleTrees();
        for (int i = 0; i < 256; i++) {
            x.add(i, 1, MAX);
        }
        for (int i = 0; i < 255; i++) {
            x.add(MAX, 2, i);
        }
        Check.due("15: chains of 256 by 255", x.chains(1, 2), 256 * 255);
    }

    /** 16: "0: it is the same", whether there is a triple with it or not. */
    private static void farToTheSame() {
        TripleTrees x = Edges.with(Edges.t(1, 0, 2), Edges.t(3, 0, 3));
        for (int p : new int[] {MIN, 0, 1, MAX}) {
            for (int v : new int[] {MIN, 0, 1, 2, 3, MAX}) {
                Check.due("16: far from " + v + " to the same along " + p, x.far(p, v, v), 0);
                Check.due("16: far in an empty set", new TripleTrees().far(p, v, v), 0);
            }
        }
    }

    /** 16: "NONE: one can't come there". */
    private static void farNowhere() {
        TripleTrees x = Edges.with(Edges.t(1, 0, 2), Edges.t(4, 0, 5));
        Check.due("16: far in an empty set", new TripleTrees().far(0, 1, 2), NONE);
        Check.due("16: far from where none begins", x.far(0, 2, 4), NONE);
        Check.due("16: far to where none leads", x.far(0, 1, 4), NONE);
        Check.due("16: far to the other part", x.far(0, 1, 5), NONE);
        Check.due("16: far from what is not there", x.far(0, 9, 2), NONE);
        Check.due("16: far to what is not there", x.far(0, 1, 9), NONE);
        Check.due("16: far between what is not there", x.far(0, 8, 9), NONE);
        Check.due("16: far from the least int", x.far(0, MIN, 2), NONE);
        Check.due("16: far to the greatest int", x.far(0, 1, MAX), NONE);
        x.remove(1, 0, 2);
        Check.due("16: far when the triple went", x.far(0, 1, 2), NONE);
    }

    /** 16: "each from its s to its o", not back. */
    private static void farAgainstTheWay() {
        TripleTrees x = Edges.with(Edges.t(MIN, 0, 0), Edges.t(0, 0, MAX));
        Check.due("16: far with the way", x.far(0, MIN, MAX), 2);
        Check.due("16: far against the way", x.far(0, MAX, MIN), NONE);
        Check.due("16: far one against the way", x.far(0, 0, MIN), NONE);
        Check.due("17: reached with the way", x.reached(0, MIN), 3);
        Check.due("17: reached from the end of the way", x.reached(0, MAX), 1);
    }

    /** 16: a walk that comes back to where it began: that is 0 far, and the walk ends. */
    private static void farBackToWhereItBegan() {
        TripleTrees self = Edges.with(Edges.t(5, 0, 5));
        Check.due("16: far of one that leads to itself", self.far(0, 5, 5), 0);
        Check.due("16: far from one that leads to itself", self.far(0, 5, 6), NONE);
        TripleTrees two = Edges.with(Edges.t(5, 0, 6), Edges.t(6, 0, 5));
        Check.due("16: far in a circle of two", two.far(0, 5, 5), 0);
        Check.due("16: far to the other in a circle of two", two.far(0, 6, 5), 1);
        Check.due("16: far out of a circle of two", two.far(0, 5, 7), NONE);
        TripleTrees tail = Edges.with(Edges.t(1, 0, 2), Edges.t(2, 0, 3), Edges.t(3, 0, 2), Edges.t(3, 0, 4));
        Check.due("16: far into a circle", tail.far(0, 1, 3), 2);
        Check.due("16: far out of a circle", tail.far(0, 1, 4), 3);
        Check.due("16: far back out of a circle", tail.far(0, 3, 1), NONE);
    }

    /** 16: any ints will do as p, from and to. */
    private static void farOfTheLeastAndTheGreatest() {
        TripleTrees x = Edges.corners();
        for (int p : new int[] {MIN, MAX}) {
            Check.due("16: far from the least to the greatest", x.far(p, MIN, MAX), 1);
            Check.due("16: far from the greatest to the least", x.far(p, MAX, MIN), 1);
            Check.due("16: far from the least to itself", x.far(p, MIN, MIN), 0);
            Check.due("16: far from the greatest to itself", x.far(p, MAX, MAX), 0);
            Check.due("16: far from the least to what is not there", x.far(p, MIN, 0), NONE);
            Check.due("17: reached from the least", x.reached(p, MIN), 2);
            Check.due("17: reached from the greatest", x.reached(p, MAX), 2);
            Check.due("17: reached from what is not there", x.reached(p, 0), 1);
        }
    }

    /** 16: "triples with p": one more or less is another p, and no way. */
    private static void farAlongAnotherP() {
        for (int p : new int[] {MIN, -1, 0, 1, MAX}) {
            TripleTrees x = Edges.with(Edges.t(1, p, 2), Edges.t(2, p + 1, 3), Edges.t(2, p - 1, 4));
            Check.due("16: far along p", x.far(p, 1, 2), 1);
            Check.due("16: far along one p more", x.far(p, 1, 3), NONE);
            Check.due("16: far along one p less", x.far(p, 1, 4), NONE);
            Check.due("16: far along the other p alone", x.far(p + 1, 2, 3), 1);
            Check.due("16: far along no p", x.far(p + 2, 1, 2), NONE);
            Check.due("17: reached along p", x.reached(p, 1), 2);
        }
    }

    /** 16: the longest way there can be in 512 calls, asked for by the last one. */
    private static void farInTheLastCall() {
        TripleTrees x = new TripleTrees();
        for (int i = 510; i >= 0; i--) {
            x.add(MIN + i, MAX, MIN + i + 1);
        }
        Check.due("16: far in the 512th call", x.far(MAX, MIN, MIN + 511), 511);
    }

    /** 17: "itself among them": 1 where one can't come to any other. */
    private static void reachedOfItselfAlone() {
        TripleTrees x = Edges.with(Edges.t(1, 0, 2), Edges.t(3, 0, 3));
        Check.due("17: reached in an empty set", new TripleTrees().reached(0, 0), 1);
        Check.due("17: reached where none begins", x.reached(0, 2), 1);
        Check.due("17: reached of what is not there", x.reached(0, 9), 1);
        Check.due("17: reached along what is not there", x.reached(1, 1), 1);
        Check.due("17: reached of one that leads to itself", x.reached(0, 3), 1);
        Check.due("17: reached of the least int", x.reached(0, MIN), 1);
        Check.due("17: reached of the greatest int", x.reached(0, MAX), 1);
        Check.due("17: reached along the least p", x.reached(MIN, 1), 1);
        Check.due("17: reached along the greatest p", x.reached(MAX, 1), 1);
    }

    /** 17: a walk that comes back to where it began counts that int once. */
    private static void reachedBackToWhereItBegan() {
        TripleTrees x = Edges.with(Edges.t(5, 0, 6), Edges.t(6, 0, 5));
        Check.due("17: reached in a circle of two", x.reached(0, 5), 2);
        x.add(5, 0, 5);
        x.add(6, 0, 6);
        Check.due("17: reached in a circle of two that lead to themselves", x.reached(0, 6), 2);
        x.add(4, 0, 5);
        Check.due("17: reached from before the circle", x.reached(0, 4), 3);
        Check.due("17: reached in the circle", x.reached(0, 5), 2);
        x.add(6, 0, 4);
        Check.due("17: reached when the circle leads back", x.reached(0, 5), 3);
    }

    /** 17: "How many ints": one to which several ways lead counts once. */
    private static void reachedTwice() {
        TripleTrees x = Edges.with(Edges.t(1, 0, 2), Edges.t(1, 0, 3), Edges.t(2, 0, 4), Edges.t(3, 0, 4),
            Edges.t(1, 0, 4));
        Check.due("17: reached by three ways", x.reached(0, 1), 4);
        Check.due("16: far by the shortest of three ways", x.far(0, 1, 4), 1);
        x.remove(1, 0, 4);
        Check.due("17: reached by two ways", x.reached(0, 1), 4);
        Check.due("16: far by two ways", x.far(0, 1, 4), 2);
    }

    /** 17: as many as 511 calls can make, from the one that leads to them all. */
    private static void reachedOfAsManyAsThereCanBe() {
        TripleTrees x = new TripleTrees();
        for (int i = 0; i < 511; i++) {
            x.add(MAX, MIN, i - 255);
        }
        Check.due("17: reached in the 512th call", x.reached(MIN, MAX), 512);
    }

    /** 16 and 17: what one call came to, the next one comes to again. */
    private static void walksOneAfterAnother() {
        TripleTrees x = new TripleTrees();
        for (int i = 0; i < 100; i++) {
            x.add(i, 0, (i + 1) % 100);
        }
        for (int i = 0; i < 100; i++) {
            Check.due("17: reached from " + i + " in a circle of 100", x.reached(0, i), 100);
            Check.due("16: far from " + i + " to the one before it", x.far(0, i, (i + 99) % 100), 99);
        }
    }

    /** 15 to 17: nothing of an earlier walk is left when the set is empty again. */
    private static void walksAfterAllWent() {
        TripleTrees x = Edges.with(Edges.t(1, 0, 2), Edges.t(2, 0, 3));
        x.far(0, 1, 3);
        x.reached(0, 1);
        x.removeAll(2, 0, 0, 0);
        Check.due("15: chains when all went", x.chains(0, 0), 0);
        Check.due("16: far when all went", x.far(0, 1, 2), NONE);
        Check.due("16: far to the same when all went", x.far(0, 1, 1), 0);
        Check.due("17: reached when all went", x.reached(0, 1), 1);
    }
}
