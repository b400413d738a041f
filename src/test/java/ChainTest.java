/** Promises 15 to 17: chains of two and of any length. */
public final class ChainTest {
    private static final int NONE = TripleTrees.NONE;
    private static final int MIN = Integer.MIN_VALUE, MAX = Integer.MAX_VALUE;

    private ChainTest() {}

    public static void main(String[] args) {
        chains();
        chainsOfOneTripleWithItself();
        chainsOfManyPairs();
        farTheShortest();
        farOnlyAlongItsP();
        farInACircle();
        farOverALongWay();
        farAtTheLimit();
        reachedFromOneThatIsNotThere();
        walksDoNotDisturbEachOther();
        Check.end();
    }

    private static void chains() {
        TripleTrees x = new TripleTrees();
        x.add(1, 10, 2);
        x.add(3, 10, 2);
        x.add(2, 20, 5);
        x.add(2, 20, 6);
        x.add(2, 10, 7);
        x.add(5, 10, 1);
        Check.due("15: chains(10, 20)", x.chains(10, 20), 4);
        Check.due("15: chains(20, 10)", x.chains(20, 10), 1);
        Check.due("15: chains(10, 10)", x.chains(10, 10), 3);
        Check.due("15: chains(20, 20)", x.chains(20, 20), 0);
        Check.due("15: chains of no such p", x.chains(30, 10), 0);
        Check.due("15: chains of no such q", x.chains(10, 30), 0);
        x.add(6, MAX, MIN);
        x.add(MIN, MIN, MAX);
        Check.due("15: chains at the edges", x.chains(MAX, MIN), 1);
        Check.due("15: chains at the edges, turned", x.chains(MIN, MAX), 0);
        x.remove(2, 20, 6);
        Check.due("15: chains after remove", x.chains(10, 20), 2);
    }

    private static void chainsOfOneTripleWithItself() {
        TripleTrees x = new TripleTrees();
        x.add(1, 2, 1);
        Check.due("15: chains of one that leads to itself", x.chains(2, 2), 1);
        x.add(1, 3, 1);
        Check.due("15: chains of two that lead to the same", x.chains(2, 3), 1);
    }

    private static void chainsOfManyPairs() {
        TripleTrees x = new TripleTrees();
        for (int i = 0; i < 200; i++) {
            x.add(i, 1, -1);
            x.add(-1, 2, i);
        }
        Check.due("15: chains of 200 by 200", x.chains(1, 2), 40000);
        Check.due("15: chains back", x.chains(2, 1), 200);
    }

    private static void farTheShortest() {
        TripleTrees x = new TripleTrees();
        x.add(1, 0, 2);
        x.add(2, 0, 3);
        x.add(3, 0, 4);
        x.add(1, 0, 9);
        x.add(9, 0, 4);
        x.add(4, 0, 5);
        Check.due("16: far to itself", x.far(0, 1, 1), 0);
        Check.due("16: far to the next", x.far(0, 1, 2), 1);
        Check.due("16: far by the shorter way", x.far(0, 1, 4), 2);
        Check.due("16: far behind both ways", x.far(0, 1, 5), 3);
        Check.due("16: far back", x.far(0, 5, 1), NONE);
        Check.due("16: far to one that is not there", x.far(0, 1, 77), NONE);
        Check.due("16: far from one that is not there", x.far(0, 77, 1), NONE);
        Check.due("16: far of one that is not there to itself", x.far(0, 77, 77), 0);
        Check.due("17: reached", x.reached(0, 1), 6);
        Check.due("17: reached from the middle", x.reached(0, 3), 3);
        Check.due("17: reached from the last", x.reached(0, 5), 1);
        x.remove(9, 0, 4);
        Check.due("16: far after remove", x.far(0, 1, 4), 3);
    }

    private static void farOnlyAlongItsP() {
        TripleTrees x = new TripleTrees();
        x.add(1, 5, 2);
        x.add(2, 6, 3);
        x.add(2, 4, 8);
        x.add(MIN, MAX, MAX);
        x.add(MAX, MAX, MIN);
        Check.due("16: far along p", x.far(5, 1, 2), 1);
        Check.due("16: far not along another p", x.far(5, 1, 3), NONE);
        Check.due("16: far not along a lesser p", x.far(5, 1, 8), NONE);
        Check.due("17: reached along p alone", x.reached(5, 1), 2);
        Check.due("16: far along no such p", x.far(7, 1, 2), NONE);
        Check.due("16: far along no such p to itself", x.far(7, 1, 1), 0);
        Check.due("17: reached along no such p", x.reached(7, 1), 1);
        Check.due("16: far at the edges", x.far(MAX, MIN, MAX), 1);
        Check.due("17: reached at the edges", x.reached(MAX, MAX), 2);
    }

    private static void farInACircle() {
        TripleTrees x = new TripleTrees();
        for (int i = 0; i < 10; i++) {
            x.add(i, 0, (i + 1) % 10);
            x.add(i, 0, i);
        }
        for (int i = 0; i < 10; i++) {
            Check.due("16: far in a circle", x.far(0, 3, i), (i + 7) % 10);
            Check.due("17: reached in a circle", x.reached(0, i), 10);
        }
    }

    private static void farOverALongWay() {
        TripleTrees x = new TripleTrees();
        for (int i = 0; i < 500; i++) {
            x.add(i * 37 % 501, 0, (i + 1) * 37 % 501);
        }
        Check.due("16: far over 500", x.far(0, 0, 500 * 37 % 501), 500);
        Check.due("17: reached over 500", x.reached(0, 0), 501);
        x.remove(250 * 37 % 501, 0, 251 * 37 % 501);
        Check.due("16: far where the way is cut", x.far(0, 0, 500 * 37 % 501), NONE);
        Check.due("17: reached where the way is cut", x.reached(0, 0), 251);
    }

    /** 700 triples can't be come to in the 512 calls that are promised; the rows hold them all the same. */
    private static void farAtTheLimit() {
        TripleTrees x = new TripleTrees();
        for (int i = 0; i < 700; i++) {
            x.add(i, 0, i + 1);
        }
        Check.due("16: far at the limit", x.far(0, 0, 700), 700);
        Check.due("17: reached at the limit", x.reached(0, 0), 701);
        Check.due("16: far beyond the limit", x.far(0, 0, 701), NONE);
    }

    /** The int the walk begins at lies among those led to, but is none of them. */
    private static void reachedFromOneThatIsNotThere() {
        TripleTrees x = new TripleTrees();
        x.add(4, 0, 3);
        x.add(4, 0, 5);
        x.add(5, 0, 9);
        Check.due("17: reached from one that none leads to", x.reached(0, 4), 4);
        Check.due("16: far from one that none leads to", x.far(0, 4, 9), 2);
        Check.due("16: far to the one behind it", x.far(0, 4, 5), 1);
        Check.due("17: reached from one that none leads to or from", x.reached(0, 8), 1);
        Check.due("17: reached from one beyond all", x.reached(0, MAX), 1);
        x.add(9, 0, 4);
        Check.due("17: reached where the way leads back", x.reached(0, 4), 4);
    }

    private static void walksDoNotDisturbEachOther() {
        TripleTrees x = new TripleTrees();
        x.add(1, 0, 2);
        x.add(1, 1, 3);
        x.add(3, 1, 4);
        for (int i = 0; i < 3; i++) {
            Check.due("17: reached along 0", x.reached(0, 1), 2);
            Check.due("17: reached along 1", x.reached(1, 1), 3);
            Check.due("16: far along 1", x.far(1, 1, 4), 2);
            Check.due("16: far along 0", x.far(0, 1, 4), NONE);
        }
        TripleTrees y = new TripleTrees();
        y.add(-5, 0, -4);
        y.add(-4, 0, -3);
        for (int i = 0; i < 3; i++) {
            Check.due("17: reached below 0", y.reached(0, -5), 3);
            Check.due("16: far below 0", y.far(0, -5, -3), 2);
        }
        x.add(0, -1, 0);
        Check.due("17: reached after places moved", x.reached(0, 1), 2);
        Check.due("17: reached along 1 after places moved", x.reached(1, 1), 3);
    }
}
