import java.util.Arrays;

/** What the tests of the boundary cases share. */
final class Edges {
    static final int MIN = Integer.MIN_VALUE, MAX = Integer.MAX_VALUE;

    /** On either side of those that there are; some look right in their last bits. */
    static final int[] NO_MASKS = {-1, 8, 9, 15, 16, -7, -8, 256, MIN, MIN + 7, MAX};
    static final int[] NO_CURSORS = {-1, 8, 9, 15, 16, -7, -8, 256, MIN, MIN + 7, MAX};

    /** Orders and parts: there are three of both. */
    static final int[] NO_THIRDS = {-1, 3, 4, 5, 6, -2, -3, 256, MIN, MAX};

    private Edges() {}

    /** Eight triples, of the least and the greatest int alone. */
    static TripleTrees corners() {
        TripleTrees x = new TripleTrees();
        for (int i = 0; i < 8; i++) {
            x.add(corner(i, 4), corner(i, 2), corner(i, 1));
        }
        return x;
    }

    /** In order 0, corner i is the i-th triple: its s has the bit 4 of i, its p 2, its o 1. */
    static int corner(int i, int bit) {
        return (i & bit) == 0 ? MIN : MAX;
    }

    static TripleTrees with(int[]... triples) {
        TripleTrees x = new TripleTrees();
        for (int[] t : triples) {
            x.add(t[0], t[1], t[2]);
        }
        return x;
    }

    static int[] t(int s, int p, int o) {
        return new int[] {s, p, o};
    }

    /** All that can be seen of the set without a cursor; for sets so small that 512 calls go far. */
    static int[] image(TripleTrees x) {
        int size = x.size();
        int[] seen = new int[2 + 9 * size];
        seen[0] = size;
        seen[1] = x.changes();
        for (int j = 0; j < 9 * size; j++) {
            seen[2 + j] = x.at(j / 3 % 3, j / 9, j % 3);
        }
        return seen;
    }

    static void dueUnchanged(String call, TripleTrees x, int[] was) {
        Check.due(call + " leaves the set as it was", Arrays.equals(image(x), was), true);
    }

    static void dueTriple(String call, TripleTrees x, int cursor, int s, int p, int o) {
        Check.due(call + ": s", x.part(cursor, 0), s);
        Check.due(call + ": p", x.part(cursor, 1), p);
        Check.due(call + ": o", x.part(cursor, 2), o);
    }

    static void dueNoTriple(String call, TripleTrees x, int cursor) {
        dueTriple(call, x, cursor, 0, 0, 0);
    }
}
