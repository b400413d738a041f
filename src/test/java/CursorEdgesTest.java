/** The boundary cases of promises 6 to 10: each method tests the sentence above it. */
public final class CursorEdgesTest {
    private static final int NONE = TripleTrees.NONE, FULL = TripleTrees.FULL, STALE = TripleTrees.STALE;
    private static final int MIN = Edges.MIN, MAX = Edges.MAX;

    private CursorEdgesTest() {}

    public static void main(String[] args) {
        openByNoMask();
        openWhenAllAreOpen();
        openTheLeastClosed();
        openBeforeTheFirst();
        openAgainKeepsNothing();
        nextStaysAtTheEnd();
        nextWhereNothingMatches();
        nextOverTheLeastAndTheGreatest();
        noSuchCursor();
        closedCursor();
        seekBeforeTheFirst();
        seekIsNotBeforeTheNext();
        seekStaysAtTheEnd();
        seekWhereNothingMatches();
        seekOnePastEachTriple();
        seekComparesPartAfterPart();
        seekOutOfThePattern();
        staleByEachChange();
        staleAtEachPlace();
        staleThoughTheSetIsAsItWas();
        freshAfterWhatChangesNothing();
        freshBesideStale();
        partThereIsNot();
        partOfNoCurrent();
        closeInEachState();
        closeLeavesTheOthers();
        Check.end();
    }

    private static void openAll(TripleTrees x) {
        for (int c = 0; c < 8; c++) {
            x.open(0, 0, 0, 0);
        }
    }

    /** 6: "NONE: no such mask", and no cursor is open then. */
    private static void openByNoMask() {
        TripleTrees x = Edges.corners();
        for (int mask : Edges.NO_MASKS) {
            Check.due("6: open by mask " + mask, x.open(mask, MIN, MIN, MIN), NONE);
        }
        for (int c = 0; c < 8; c++) {
            Check.due("7: next after open by no mask", x.next(c), NONE);
            Check.due("10: close after open by no mask", x.close(c), false);
        }
        openAll(x);
        for (int mask : Edges.NO_MASKS) {
            Check.due("6: open by mask " + mask + ", all open", x.open(mask, MIN, MIN, MIN), NONE);
        }
    }

    /** 6: "FULL: all are open", whether they are at the end, stale or neither. */
    private static void openWhenAllAreOpen() {
        TripleTrees x = Edges.with(Edges.t(1, 2, 3));
        openAll(x);
        x.next(0);
        x.next(1);
        x.next(1);
        for (int mask = 0; mask < 8; mask++) {
            Check.due("6: open, all open, by mask " + mask, x.open(mask, 1, 2, 3), FULL);
        }
        Edges.dueTriple("6: open, all open, leaves the first as it was", x, 0, 1, 2, 3);
        Edges.dueNoTriple("6: open, all open, leaves the second as it was", x, 1);
        Check.due("7: next of the last after FULL", x.next(7), 1);
        x.add(0, 0, 0);
        Check.due("6: open, all stale", x.open(0, 0, 0, 0), FULL);
        Check.due("7: next of a stale one after FULL", x.next(7), STALE);
    }

    /** 6: "The least closed cursor is open". */
    private static void openTheLeastClosed() {
        TripleTrees x = new TripleTrees();
        openAll(x);
        for (int c = 0; c < 8; c++) {
            x.close(c);
            Check.due("6: open of the only closed one", x.open(0, 0, 0, 0), c);
        }
        x.close(7);
        x.close(0);
        x.close(4);
        Check.due("6: open of the least of three", x.open(0, 0, 0, 0), 0);
        Check.due("6: open of the least of two", x.open(0, 0, 0, 0), 4);
        Check.due("6: open of the last", x.open(0, 0, 0, 0), 7);
        Check.due("6: open of none", x.open(0, 0, 0, 0), FULL);
    }

    /** 6: "before the first triple that matches": it has no current one yet. */
    private static void openBeforeTheFirst() {
        for (int mask = 0; mask < 8; mask++) {
            TripleTrees x = Edges.corners();
            Check.due("6: open by mask " + mask, x.open(mask, MAX, MAX, MAX), 0);
            Edges.dueNoTriple("9: part before the first by mask " + mask, x, 0);
            Check.due("7: next to the first by mask " + mask, x.next(0), 1);
            Edges.dueTriple("9: part of the first by mask " + mask, x, 0,
                (mask & 1) == 0 ? MIN : MAX, (mask & 2) == 0 ? MIN : MAX, (mask & 4) == 0 ? MIN : MAX);
        }
    }

    /** 6: a cursor that is opened again is before the first, whatever it was. */
    private static void openAgainKeepsNothing() {
        TripleTrees x = Edges.with(Edges.t(1, 2, 3), Edges.t(4, 5, 6));
        x.open(0, 0, 0, 0);
        x.next(0);
        x.close(0);
        Check.due("6: open again after a current one", x.open(1, 4, 0, 0), 0);
        Edges.dueNoTriple("9: part when opened again after a current one", x, 0);
        x.next(0);
        x.next(0);
        x.close(0);
        x.open(2, 0, 5, 0);
        Check.due("7: next when opened again after the end", x.next(0), 1);
        Edges.dueTriple("9: part when opened again after the end", x, 0, 4, 5, 6);
        x.remove(1, 2, 3);
        x.close(0);
        x.open(4, 0, 0, 6);
        Edges.dueNoTriple("9: part when opened again after it was stale", x, 0);
        Check.due("7: next when opened again after it was stale", x.next(0), 1);
        Edges.dueTriple("9: part of the first when opened again after it was stale", x, 0, 4, 5, 6);
    }

    /** 7: "0 when there is none any more (it has none then, and stays at the end)". */
    private static void nextStaysAtTheEnd() {
        for (int mask = 0; mask < 8; mask++) {
            TripleTrees x = Edges.corners();
            x.open(mask, MIN, MIN, MIN);
            int matching = x.many(mask, MIN, MIN, MIN);
            for (int i = 0; i < matching; i++) {
                Check.due("7: next by mask " + mask, x.next(0), 1);
                Check.due("9: part of a current one by mask " + mask, x.part(0, 0) != 0, true);
            }
            for (int i = 0; i < 3; i++) {
                Check.due("7: next at the end by mask " + mask, x.next(0), 0);
                Edges.dueNoTriple("9: part at the end by mask " + mask, x, 0);
            }
            Check.due("8: seek after next at the end by mask " + mask, x.seek(0, MIN, MIN, MIN), 0);
        }
    }

    /** 7: "0 when there is none any more", at once where the set or the pattern has none. */
    private static void nextWhereNothingMatches() {
        TripleTrees empty = new TripleTrees();
        TripleTrees x = Edges.corners();
        for (int mask = 0; mask < 8; mask++) {
            Check.due("6: open over an empty set", empty.open(mask, 0, 0, 0), mask);
            Check.due("7: next over an empty set", empty.next(mask), 0);
            Check.due("7: next over an empty set again", empty.next(mask), 0);
            Edges.dueNoTriple("9: part over an empty set", empty, mask);
        }
        for (int mask = 1; mask < 8; mask++) {
            Check.due("6: open where nothing matches", x.open(mask, 0, 0, 0), mask - 1);
            Check.due("7: next where nothing matches", x.next(mask - 1), 0);
            Check.due("7: next where nothing matches again", x.next(mask - 1), 0);
            Edges.dueNoTriple("9: part where nothing matches", x, mask - 1);
        }
    }

    /** 7 and Terms: the least int comes first, the greatest last, in each order. */
    private static void nextOverTheLeastAndTheGreatest() {
        int[] masks = {0, 2, 4};
        for (int order = 0; order < 3; order++) {
            int mask = masks[order];
            TripleTrees x = Edges.with(Edges.t(0, 0, 0), Edges.t(MAX, 0, 0), Edges.t(MIN, 0, 0), Edges.t(-1, 0, 0),
                Edges.t(1, 0, 0));
            x.open(mask, 0, 0, 0);
            for (int s : new int[] {MIN, -1, 0, 1, MAX}) {
                Check.due("7: next by mask " + mask, x.next(0), 1);
                Edges.dueTriple("9: part by mask " + mask, x, 0, s, 0, 0);
            }
            Check.due("7: next after the greatest by mask " + mask, x.next(0), 0);
        }
    }

    /** 7 to 10: "no such cursor": NONE of next and seek, 0 of part, false of close. */
    private static void noSuchCursor() {
        TripleTrees x = Edges.corners();
        openAll(x);
        for (int c = 0; c < 8; c++) {
            x.next(c);
        }
        for (int c : Edges.NO_CURSORS) {
            Check.due("7: next of cursor " + c, x.next(c), NONE);
            Check.due("8: seek of cursor " + c, x.seek(c, MIN, MIN, MIN), NONE);
            Edges.dueNoTriple("9: part of cursor " + c, x, c);
            Check.due("10: close of cursor " + c, x.close(c), false);
        }
        x.add(0, 0, 0);
        for (int c : Edges.NO_CURSORS) {
            Check.due("7: next of cursor " + c + ", all stale", x.next(c), NONE);
            Check.due("8: seek of cursor " + c + ", all stale", x.seek(c, MIN, MIN, MIN), NONE);
        }
        for (int c = 0; c < 8; c++) {
            Check.due("10: close of one that there is", x.close(c), true);
        }
    }

    private static void dueClosed(String what, TripleTrees x, int c) {
        Check.due("7: next of " + what, x.next(c), NONE);
        Check.due("8: seek of " + what, x.seek(c, MIN, MIN, MIN), NONE);
        Edges.dueNoTriple("9: part of " + what, x, c);
        Check.due("10: close of " + what, x.close(c), false);
    }

    /** 7 to 10: "or it is closed", also when it was stale or the set changed later. */
    private static void closedCursor() {
        TripleTrees x = Edges.corners();
        openAll(x);
        for (int c = 0; c < 8; c++) {
            x.next(c);
        }
        x.close(3);
        dueClosed("a closed one among open ones", x, 3);
        x.add(0, 0, 0);
        dueClosed("one closed before the set changed", x, 3);
        x.close(5);
        dueClosed("one closed when stale", x, 5);
        Check.due("7: next of the stale one beside", x.next(4), STALE);
        x.close(0);
        x.close(7);
        dueClosed("the least one, closed", x, 0);
        dueClosed("the greatest one, closed", x, 7);
    }

    /** 8: "not before the next": the first one, where the parts told are the least. */
    private static void seekBeforeTheFirst() {
        for (int mask = 0; mask < 8; mask++) {
            TripleTrees x = Edges.corners();
            x.open(mask, MAX, MAX, MAX);
            Check.due("8: seek of the least by mask " + mask, x.seek(0, MIN, MIN, MIN), 1);
            Edges.dueTriple("9: part after seek of the least by mask " + mask, x, 0,
                (mask & 1) == 0 ? MIN : MAX, (mask & 2) == 0 ? MIN : MAX, (mask & 4) == 0 ? MIN : MAX);
        }
    }

    /** 8: "not before the next": neither back, nor to the current one again. */
    private static void seekIsNotBeforeTheNext() {
        TripleTrees x = Edges.corners();
        x.open(0, 0, 0, 0);
        for (int i = 0; i < 8; i++) {
            Check.due("8: seek of the least, again", x.seek(0, MIN, MIN, MIN), 1);
            Edges.dueTriple("8: seek of the least, again", x, 0, Edges.corner(i, 4), Edges.corner(i, 2),
                Edges.corner(i, 1));
        }
        Check.due("8: seek of the least, after the last", x.seek(0, MIN, MIN, MIN), 0);
        TripleTrees y = Edges.corners();
        y.open(0, 0, 0, 0);
        for (int i = 0; i < 7; i++) {
            y.next(0);
            Check.due("8: seek of the current one", y.seek(0, y.part(0, 0), y.part(0, 1), y.part(0, 2)), 1);
            i++;
            Edges.dueTriple("8: seek of the current one", y, 0, Edges.corner(i, 4), Edges.corner(i, 2),
                Edges.corner(i, 1));
        }
    }

    /** 8: "where it is at the end it stays there", having come there by next or by seek. */
    private static void seekStaysAtTheEnd() {
        TripleTrees x = Edges.with(Edges.t(1, 2, 3), Edges.t(4, 5, 6));
        x.open(0, 0, 0, 0);
        Check.due("8: seek beyond the last", x.seek(0, 4, 5, 7), 0);
        x.open(0, 0, 0, 0);
        x.next(1);
        x.next(1);
        x.next(1);
        for (int c = 0; c < 2; c++) {
            Edges.dueNoTriple("9: part at the end", x, c);
            Check.due("8: seek of the first at the end", x.seek(c, 1, 2, 3), 0);
            Edges.dueNoTriple("9: part after seek at the end", x, c);
            Check.due("8: seek of the least at the end", x.seek(c, MIN, MIN, MIN), 0);
            Check.due("8: seek of the greatest at the end", x.seek(c, MAX, MAX, MAX), 0);
            Check.due("7: next after seek at the end", x.next(c), 0);
            Edges.dueNoTriple("9: part after next at the end", x, c);
        }
    }

    /** 8: "as next()": 0 at once where the set or the pattern has none. */
    private static void seekWhereNothingMatches() {
        TripleTrees empty = new TripleTrees();
        TripleTrees x = Edges.corners();
        for (int mask = 0; mask < 8; mask++) {
            empty.open(mask, 0, 0, 0);
            Check.due("8: seek over an empty set", empty.seek(mask, MIN, MIN, MIN), 0);
            Edges.dueNoTriple("9: part after seek over an empty set", empty, mask);
        }
        for (int mask = 1; mask < 8; mask++) {
            int c = x.open(mask, 0, 0, 0);
            Check.due("8: seek where nothing matches", x.seek(c, MIN, MIN, MIN), 0);
            Edges.dueNoTriple("9: part after seek where nothing matches", x, c);
            Check.due("7: next after seek where nothing matches", x.next(c), 0);
        }
    }

    /** 8: "at least a, b, c": the very one is enough, one more is too much. */
    private static void seekOnePastEachTriple() {
        int[] masks = {0, 2, 4};
        for (int order = 0; order < 3; order++) {
            for (int last = 0; last < 4; last++) {
                TripleTrees x = new TripleTrees();
                for (int i = 0; i < 4; i++) {
                    int[] t = new int[3];
                    t[(order + 2) % 3] = 10 * i;
                    x.add(t[0], t[1], t[2]);
                }
                int c = x.open(masks[order], 0, 0, 0);
                int d = x.open(masks[order], 0, 0, 0);
                Check.due("8: seek of the very one", x.seek(c, 0, 0, 10 * last), 1);
                Check.due("9: part of the very one", x.part(c, (order + 2) % 3), 10 * last);
                Check.due("8: seek of one more", x.seek(d, 0, 0, 10 * last + 1), last == 3 ? 0 : 1);
                Check.due("9: part behind one more", x.part(d, (order + 2) % 3), last == 3 ? 0 : 10 * last + 10);
            }
        }
    }

    /** 8: "told and compared in its order": the first part that differs decides. */
    private static void seekComparesPartAfterPart() {
        int[] masks = {0, 2, 4};
        for (int order = 0; order < 3; order++) {
            TripleTrees x = new TripleTrees();
            int[][] inOrder = {{1, MIN, MIN}, {1, MIN, MAX}, {1, 0, MIN}, {1, MAX, MIN}, {1, MAX, MAX}};
            for (int[] t : inOrder) {
                int[] turned = new int[3];
                for (int i = 0; i < 3; i++) {
                    turned[(order + i) % 3] = t[i];
                }
                x.add(turned[0], turned[1], turned[2]);
            }
            int[][] told = {{0, MAX, MAX}, {1, MIN, 0}, {1, MIN + 1, MIN}, {1, 1, MIN}, {1, MAX, 0}};
            for (int k = 0; k < 5; k++) {
                int c = x.open(masks[order], 1, 1, 1);
                Check.due("8: seek in order " + order, x.seek(c, told[k][0], told[k][1], told[k][2]), 1);
                for (int i = 0; i < 3; i++) {
                    Check.due("9: part after seek in order " + order, x.part(c, (order + i) % 3), inOrder[k][i]);
                }
                x.close(c);
            }
            int c = x.open(masks[order], 1, 1, 1);
            Check.due("8: seek of a greater first part in order " + order, x.seek(c, 2, MIN, MIN), 0);
        }
    }

    /** 8: "the first one", of its matching triples: others are not come to. */
    private static void seekOutOfThePattern() {
        for (int mask = 1; mask < 7; mask++) {
            TripleTrees x = Edges.corners();
            x.add(0, 0, 0);
            int c = x.open(mask, MIN, MIN, MIN);
            Check.due("8: seek beyond the pattern by mask " + mask, x.seek(c, MAX, MAX, MAX), 0);
            Edges.dueNoTriple("9: part beyond the pattern by mask " + mask, x, c);
            int d = x.open(mask, 0, 0, 0);
            Check.due("8: seek from before the pattern by mask " + mask, x.seek(d, MIN, MAX, MAX), 1);
            Edges.dueTriple("9: part after seek from before by mask " + mask, x, d, 0, 0, 0);
            Check.due("8: seek behind the only one by mask " + mask, x.seek(d, MIN, MIN, MIN), 0);
        }
    }

    private static void dueStale(String what, TripleTrees x, int c) {
        for (int i = 0; i < 2; i++) {
            Check.due("7: next, stale by " + what, x.next(c), STALE);
            Check.due("8: seek, stale by " + what, x.seek(c, MIN, MIN, MIN), STALE);
            Edges.dueNoTriple("9: part, stale by " + what, x, c);
        }
    }

    /** Terms: "a triple comes or goes", by each call that can make it so. */
    private static void staleByEachChange() {
        String[] whats = {"add", "remove", "removeAll of one", "removeAll of all"};
        for (int kind = 0; kind < 4; kind++) {
            TripleTrees x = Edges.corners();
            openAll(x);
            for (int c = 0; c < 8; c++) {
                x.next(c);
            }
            if (kind == 0) {
                x.add(0, 0, 0);
            } else if (kind == 1) {
                x.remove(MAX, MAX, MAX);
            } else {
                x.removeAll(kind == 2 ? 7 : 0, MAX, MAX, MAX);
            }
            for (int c = 0; c < 8; c++) {
                dueStale(whats[kind], x, c);
            }
        }
    }

    /** Terms: "all that are open become STALE", also those whose pattern does not match what came. */
    private static void staleAtEachPlace() {
        TripleTrees x = Edges.with(Edges.t(1, 2, 3), Edges.t(4, 5, 6));
        int beforeTheFirst = x.open(0, 0, 0, 0);
        int atTheFirst = x.open(1, 1, 0, 0);
        x.next(atTheFirst);
        int atTheEnd = x.open(2, 0, 2, 0);
        x.next(atTheEnd);
        x.next(atTheEnd);
        int overNothing = x.open(4, 0, 0, 9);
        x.add(7, 8, 9);
        dueStale("a change, before the first", x, beforeTheFirst);
        dueStale("a change, at a current one that stays", x, atTheFirst);
        dueStale("a change, at the end", x, atTheEnd);
        dueStale("a change, over nothing", x, overNothing);
    }

    /** Terms: "When the set changes": to and fro is a change. */
    private static void staleThoughTheSetIsAsItWas() {
        TripleTrees x = Edges.with(Edges.t(1, 2, 3));
        x.open(0, 0, 0, 0);
        x.next(0);
        x.add(4, 5, 6);
        x.remove(4, 5, 6);
        dueStale("what came and went", x, 0);
        x.open(0, 0, 0, 0);
        x.next(1);
        x.remove(1, 2, 3);
        x.add(1, 2, 3);
        dueStale("what went and came", x, 1);
    }

    /** Terms: "a triple comes or goes": where none does, no cursor is stale. */
    private static void freshAfterWhatChangesNothing() {
        TripleTrees x = Edges.corners();
        x.open(0, 0, 0, 0);
        x.next(0);
        x.add(MIN, MIN, MIN);
        x.remove(0, 0, 0);
        x.removeAll(-1, 0, 0, 0);
        x.removeAll(8, 0, 0, 0);
        x.removeAll(7, 0, 0, 0);
        x.removeAll(1, 0, 0, 0);
        x.open(8, 0, 0, 0);
        x.close(x.open(0, 0, 0, 0));
        x.close(8);
        x.chains(MIN, MIN);
        x.far(MIN, MIN, MAX);
        x.reached(MIN, MIN);
        Edges.dueTriple("9: part where nothing changed", x, 0, MIN, MIN, MIN);
        Check.due("7: next where nothing changed", x.next(0), 1);
        Edges.dueTriple("9: part of the next where nothing changed", x, 0, MIN, MIN, MAX);
        Check.due("8: seek where nothing changed", x.seek(0, MAX, MAX, MAX), 1);
        Check.due("7: next at the end where nothing changed", x.next(0), 0);
    }

    /** Terms: "all that are open": one that is opened after the change is not stale. */
    private static void freshBesideStale() {
        TripleTrees x = Edges.with(Edges.t(1, 2, 3));
        x.open(0, 0, 0, 0);
        x.add(4, 5, 6);
        x.open(0, 0, 0, 0);
        dueStale("a change before another was open", x, 0);
        Check.due("7: next of one opened after the change", x.next(1), 1);
        Edges.dueTriple("9: part of one opened after the change", x, 1, 1, 2, 3);
        Check.due("8: seek of one opened after the change", x.seek(1, 4, 5, 6), 1);
        Edges.dueTriple("9: part after seek of one opened after the change", x, 1, 4, 5, 6);
        x.removeAll(0, 0, 0, 0);
        dueStale("the second change", x, 0);
        dueStale("the first change", x, 1);
    }

    /** 9: "none such": a part that there is not, of a current triple. */
    private static void partThereIsNot() {
        for (int mask = 0; mask < 8; mask++) {
            TripleTrees x = Edges.with(Edges.t(1, 2, 3), Edges.t(4, 5, 6), Edges.t(7, 8, 9));
            x.open(mask, 4, 5, 6);
            x.seek(0, MIN, MIN, MIN);
            for (int i : Edges.NO_THIRDS) {
                Check.due("9: part " + i + " by mask " + mask, x.part(0, i), 0);
            }
            Check.due("9: part 2 by mask " + mask, x.part(0, 2), mask == 0 ? 3 : 6);
        }
    }

    /** 9: "0: .. none, closed, stale". */
    private static void partOfNoCurrent() {
        TripleTrees x = Edges.with(Edges.t(1, 2, 3), Edges.t(4, 5, 6));
        for (int i = 0; i < 3; i++) {
            Check.due("9: part of one never opened", x.part(0, i), 0);
        }
        x.open(0, 0, 0, 0);
        Edges.dueNoTriple("9: part before the first", x, 0);
        x.next(0);
        x.next(0);
        Edges.dueTriple("9: part of the last", x, 0, 4, 5, 6);
        x.next(0);
        Edges.dueNoTriple("9: part at the end", x, 0);
        x.open(0, 0, 0, 0);
        x.next(1);
        x.close(1);
        Edges.dueNoTriple("9: part of a closed one", x, 1);
        x.open(0, 0, 0, 0);
        x.next(1);
        x.remove(4, 5, 6);
        Edges.dueNoTriple("9: part of a stale one", x, 1);
    }

    /** 10: "A cursor is closed", wherever it is; "False: no such one, it is". */
    private static void closeInEachState() {
        TripleTrees x = Edges.with(Edges.t(1, 2, 3));
        openAll(x);
        x.next(1);
        x.next(2);
        x.next(2);
        Check.due("10: close before the first", x.close(0), true);
        Check.due("10: close at a current one", x.close(1), true);
        Check.due("10: close at the end", x.close(2), true);
        x.removeAll(0, 0, 0, 0);
        Check.due("10: close of a stale one", x.close(7), true);
        for (int c : new int[] {0, 1, 2, 7}) {
            Check.due("10: close of a closed one", x.close(c), false);
            Check.due("7: next of a closed one", x.next(c), NONE);
        }
    }

    /** 10: "A cursor is closed", that one alone. */
    private static void closeLeavesTheOthers() {
        for (int closed = 0; closed < 8; closed++) {
            TripleTrees x = Edges.with(Edges.t(1, 2, 3));
            openAll(x);
            for (int c = 0; c < 8; c++) {
                x.next(c);
            }
            x.close(closed);
            for (int c = 0; c < 8; c++) {
                Check.due("9: part beside a closed one", x.part(c, 2), c == closed ? 0 : 3);
                Check.due("7: next beside a closed one", x.next(c), c == closed ? NONE : 0);
            }
        }
    }
}
