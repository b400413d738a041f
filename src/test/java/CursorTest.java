/** Promises 6 to 10: cursors. */
public final class CursorTest {
    private static final int NONE = TripleTrees.NONE, FULL = TripleTrees.FULL, STALE = TripleTrees.STALE;
    private static final int MIN = Integer.MIN_VALUE, MAX = Integer.MAX_VALUE;
    private static final int[] NO_CURSORS = {-1, 8, 9, MIN, MAX};

    private CursorTest() {}

    public static void main(String[] args) {
        openNumbers();
        openWrong();
        nextInTheOrderOfEachMask();
        nextAtTheEnd();
        nextWrong();
        seekInEachOrder();
        seekNotBeforeTheNext();
        seekStaysInThePattern();
        seekAtTheEnd();
        seekAtTheEdges();
        stale();
        whatLeavesCursorsFresh();
        part();
        close();
        Check.end();
    }

    private static TripleTrees cube() {
        TripleTrees x = new TripleTrees();
        for (int i = 26; i >= 0; i--) {
            x.add(i % 3, i / 3 % 3, i / 9);
        }
        return x;
    }

    private static void dueTriple(String call, TripleTrees x, int cursor, int s, int p, int o) {
        Check.due(call + ": s", x.part(cursor, 0), s);
        Check.due(call + ": p", x.part(cursor, 1), p);
        Check.due(call + ": o", x.part(cursor, 2), o);
    }

    private static void openNumbers() {
        TripleTrees x = cube();
        for (int c = 0; c < 8; c++) {
            Check.due("6: open", x.open(c, 0, 0, 0), c);
        }
        Check.due("6: open of a ninth", x.open(0, 0, 0, 0), FULL);
        Check.due("6: open by no mask, all open", x.open(8, 0, 0, 0), NONE);
        x.close(5);
        x.close(2);
        Check.due("6: open of the least closed", x.open(0, 0, 0, 0), 2);
        Check.due("6: open of the one left", x.open(0, 0, 0, 0), 5);
        Check.due("6: open, all open again", x.open(0, 0, 0, 0), FULL);
        x.add(9, 9, 9);
        Check.due("6: open, all stale", x.open(0, 0, 0, 0), FULL);
    }

    private static void openWrong() {
        TripleTrees x = cube();
        for (int mask : new int[] {-1, 8, 15, MIN, MAX}) {
            Check.due("6: open by mask " + mask, x.open(mask, 0, 0, 0), NONE);
        }
        Check.due("6: open after wrong masks", x.open(0, 0, 0, 0), 0);
    }

    private static void nextInTheOrderOfEachMask() {
        int[] orders = {0, 0, 1, 0, 2, 2, 1, 0};
        for (int mask = 0; mask < 8; mask++) {
            TripleTrees x = cube();
            int c = x.open(mask, 1, 2, 0);
            int turn = orders[mask];
            // All triples in the order of the mask: its first part changes the least.
            for (int i = 0; i < 27; i++) {
                int[] parts = new int[3];
                parts[turn] = i / 9;
                parts[(turn + 1) % 3] = i / 3 % 3;
                parts[(turn + 2) % 3] = i % 3;
                boolean matches = ((mask & 1) == 0 || parts[0] == 1) && ((mask & 2) == 0 || parts[1] == 2)
                    && ((mask & 4) == 0 || parts[2] == 0);
                if (matches) {
                    Check.due("7: next by mask " + mask, x.next(c), 1);
                    dueTriple("7: next by mask " + mask, x, c, parts[0], parts[1], parts[2]);
                }
            }
            Check.due("7: next after the last by mask " + mask, x.next(c), 0);
        }
    }

    private static void nextAtTheEnd() {
        TripleTrees x = new TripleTrees();
        x.add(4, 5, 6);
        int c = x.open(1, 4, 0, 0);
        dueTriple("6: open has none", x, c, 0, 0, 0);
        Check.due("7: next", x.next(c), 1);
        dueTriple("7: next", x, c, 4, 5, 6);
        Check.due("7: next at the end", x.next(c), 0);
        dueTriple("7: none at the end", x, c, 0, 0, 0);
        Check.due("7: next stays at the end", x.next(c), 0);
        TripleTrees y = cube();
        int inTheMidst = y.open(1, 1, 0, 0);
        dueTriple("6: open in the midst has none", y, inTheMidst, 0, 0, 0);
        y.next(inTheMidst);
        y.close(inTheMidst);
        y.open(1, 2, 0, 0);
        dueTriple("6: open again in the midst has none", y, inTheMidst, 0, 0, 0);
        int none = x.open(1, 5, 0, 0);
        Check.due("7: next where none matches", x.next(none), 0);
        dueTriple("7: none where none matches", x, none, 0, 0, 0);
    }

    private static void nextWrong() {
        TripleTrees x = cube();
        x.open(0, 0, 0, 0);
        for (int c : NO_CURSORS) {
            Check.due("7: next of cursor " + c, x.next(c), NONE);
            Check.due("8: seek of cursor " + c, x.seek(c, 0, 0, 0), NONE);
        }
        Check.due("7: next of a closed one", x.next(1), NONE);
        Check.due("8: seek of a closed one", x.seek(1, 0, 0, 0), NONE);
        x.close(0);
        Check.due("7: next of one that was open", x.next(0), NONE);
        Check.due("8: seek of one that was open", x.seek(0, 0, 0, 0), NONE);
    }

    private static void seekInEachOrder() {
        TripleTrees x = cube();
        int bySpo = x.open(0, 0, 0, 0);
        Check.due("8: seek by s", x.seek(bySpo, 1, 2, 0), 1);
        dueTriple("8: seek by s", x, bySpo, 1, 2, 0);
        Check.due("8: seek to where the next s begins", x.seek(bySpo, 1, 3, 0), 1);
        dueTriple("8: seek to where the next s begins", x, bySpo, 2, 0, 0);
        int byPos = x.open(2, 0, 1, 0);
        Check.due("8: seek by p", x.seek(byPos, 1, 2, 0), 1);
        dueTriple("8: seek by p", x, byPos, 0, 1, 2);
        int byOsp = x.open(4, 0, 0, 1);
        Check.due("8: seek by o", x.seek(byOsp, 1, 2, 1), 1);
        dueTriple("8: seek by o", x, byOsp, 2, 1, 1);
        int byOs = x.open(5, 1, 0, 2);
        Check.due("8: seek by o and s", x.seek(byOs, 2, 1, 2), 1);
        dueTriple("8: seek by o and s", x, byOs, 1, 2, 2);
    }

    private static void seekNotBeforeTheNext() {
        TripleTrees x = cube();
        int c = x.open(0, 0, 0, 0);
        Check.due("8: seek from before the first", x.seek(c, MIN, MIN, MIN), 1);
        dueTriple("8: seek from before the first", x, c, 0, 0, 0);
        Check.due("8: seek of the current one", x.seek(c, 0, 0, 0), 1);
        dueTriple("8: seek of the current one goes on", x, c, 0, 0, 1);
        Check.due("8: seek ahead", x.seek(c, 2, 0, 0), 1);
        Check.due("8: seek back", x.seek(c, 0, 0, 0), 1);
        dueTriple("8: seek back goes on", x, c, 2, 0, 1);
        Check.due("7: next after seek", x.next(c), 1);
        dueTriple("7: next after seek", x, c, 2, 0, 2);
    }

    private static void seekStaysInThePattern() {
        TripleTrees x = cube();
        int c = x.open(1, 1, 0, 0);
        Check.due("8: seek to before the pattern", x.seek(c, 0, 2, 2), 1);
        dueTriple("8: seek to before the pattern", x, c, 1, 0, 0);
        Check.due("8: seek to after the pattern", x.seek(c, 2, 0, 0), 0);
        dueTriple("8: seek to after the pattern", x, c, 0, 0, 0);
        Check.due("7: next after the pattern", x.next(c), 0);
    }

    private static void seekAtTheEnd() {
        TripleTrees x = cube();
        int c = x.open(0, 0, 0, 0);
        Check.due("8: seek to the last", x.seek(c, 2, 2, 2), 1);
        dueTriple("8: seek to the last", x, c, 2, 2, 2);
        Check.due("8: seek after the last", x.seek(c, 0, 0, 0), 0);
        dueTriple("8: seek after the last", x, c, 0, 0, 0);
        Check.due("8: seek stays at the end", x.seek(c, 0, 0, 0), 0);
        int d = x.open(0, 0, 0, 0);
        Check.due("8: seek beyond all", x.seek(d, 2, 2, 3), 0);
        Check.due("8: seek back from the end", x.seek(d, 0, 0, 0), 0);
        dueTriple("8: none at the end", x, d, 0, 0, 0);
    }

    private static void seekAtTheEdges() {
        TripleTrees x = new TripleTrees();
        x.add(MIN, MIN, MIN);
        x.add(MAX, MAX, MAX);
        x.add(-1, 0, 1);
        int c = x.open(0, 0, 0, 0);
        Check.due("8: seek over zero", x.seek(c, -1, MAX, MAX), 1);
        dueTriple("8: seek over zero", x, c, MAX, MAX, MAX);
        int d = x.open(0, 0, 0, 0);
        Check.due("8: seek of the greatest", x.seek(d, MAX, MAX, MAX), 1);
        dueTriple("8: seek of the greatest", x, d, MAX, MAX, MAX);
        int e = x.open(0, 0, 0, 0);
        Check.due("8: seek after the least", x.seek(e, MIN, MIN, MIN + 1), 1);
        dueTriple("8: seek after the least", x, e, -1, 0, 1);
    }

    private static void dueStale(String what, TripleTrees x, int cursor) {
        Check.due("7: next after " + what, x.next(cursor), STALE);
        Check.due("8: seek after " + what, x.seek(cursor, 0, 0, 0), STALE);
        dueTriple("9: part after " + what, x, cursor, 0, 0, 0);
        Check.due("7: next once more after " + what, x.next(cursor), STALE);
    }

    private static void stale() {
        TripleTrees x = cube();
        x.open(0, 0, 0, 0);
        x.open(1, 1, 0, 0);
        x.open(1, 7, 0, 0);
        x.next(0);
        x.next(2);
        x.add(7, 7, 7);
        dueStale("add", x, 0);
        dueStale("add, before the first", x, 1);
        dueStale("add, at the end", x, 2);
        int c = x.open(0, 0, 0, 0);
        Check.due("7: next of one opened after the change", x.next(c), 1);
        x.remove(7, 7, 7);
        dueStale("remove", x, c);
        dueStale("add and remove of the same", x, 0);
        int d = x.open(0, 0, 0, 0);
        x.next(d);
        x.removeAll(1, 2, 0, 0);
        dueStale("removeAll", x, d);
        Check.due("10: close of a stale one", x.close(0), true);
        Check.due("6: open of one that was stale", x.open(0, 0, 0, 0), 0);
        dueTriple("9: part of one that was stale", x, 0, 0, 0, 0);
        Check.due("7: next of one that was stale", x.next(0), 1);
        dueTriple("9: part of one that was stale, after next", x, 0, 0, 0, 0);
        Check.due("7: next of one that was stale", x.next(0), 1);
        dueTriple("9: part of one that was stale, after next", x, 0, 0, 0, 1);
    }

    private static void whatLeavesCursorsFresh() {
        TripleTrees x = cube();
        int c = x.open(0, 0, 0, 0);
        x.seek(c, 1, 2, 1);
        x.add(0, 0, 0);
        x.remove(7, 7, 7);
        x.removeAll(1, 7, 0, 0);
        x.removeAll(8, 0, 0, 0);
        x.far(0, 0, 1);
        x.reached(0, 0);
        x.chains(0, 0);
        x.close(x.open(2, 0, 0, 0));
        dueTriple("9: part where nothing changed", x, c, 1, 2, 1);
        Check.due("7: next where nothing changed", x.next(c), 1);
        dueTriple("9: part where nothing changed", x, c, 1, 2, 2);
    }

    private static void part() {
        TripleTrees x = new TripleTrees();
        x.add(11, 12, 13);
        for (int mask = 0; mask < 8; mask++) {
            int c = x.open(mask, 11, 12, 13);
            x.next(c);
            dueTriple("9: part by mask " + mask, x, c, 11, 12, 13);
        }
        for (int i : new int[] {-1, 3, 4, MIN, MAX}) {
            Check.due("9: part " + i, x.part(0, i), 0);
        }
        for (int c : NO_CURSORS) {
            Check.due("9: part of cursor " + c, x.part(c, 0), 0);
        }
        x.close(3);
        dueTriple("9: part of a closed one", x, 3, 0, 0, 0);
        dueTriple("9: part of the one beside", x, 4, 11, 12, 13);
        x.open(0, 0, 0, 0);
        dueTriple("9: part of one opened again", x, 3, 0, 0, 0);
    }

    private static void close() {
        TripleTrees x = cube();
        x.open(0, 0, 0, 0);
        x.open(0, 0, 0, 0);
        for (int c : NO_CURSORS) {
            Check.due("10: close of cursor " + c, x.close(c), false);
        }
        Check.due("10: close of a closed one", x.close(2), false);
        Check.due("10: close", x.close(0), true);
        Check.due("10: close again", x.close(0), false);
        Check.due("10: the other one stays open", x.next(1), 1);
        Check.due("10: close of the other one", x.close(1), true);
    }
}
