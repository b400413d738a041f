import java.util.ArrayList;
import java.util.HashSet;
import java.util.List;
import java.util.Random;
import java.util.Set;

/** All promises at once: long runs of mixed calls against a plain list that is looked through. */
public final class ModelTest {
    private static final int NONE = TripleTrees.NONE, FULL = TripleTrees.FULL, STALE = TripleTrees.STALE;
    private static final int CALLS = 512;
    private static final int[] EDGES = {Integer.MIN_VALUE, Integer.MIN_VALUE + 1, -1, 0, 1, 2, Integer.MAX_VALUE};

    private static Random random;
    private static int range;
    private static TripleTrees x;
    private static List<int[]> model;
    private static int changed;
    private static List<List<int[]>> matchesOf;
    private static int[] orderOf;
    private static int[] indexOf;
    private static boolean[] stale;

    private ModelTest() {}

    public static void main(String[] args) {
        for (int run = 0; run < 1500 && !Check.anyWrong(); run++) {
            begin(run);
            int adds = run % 5 == 0 ? 300 : 20 + run % 60;
            for (int i = 0; i < adds; i++) {
                addOne();
            }
            for (int i = adds; i < CALLS && !Check.anyWrong(); i++) {
                call();
            }
            if (Check.anyWrong()) {
                System.out.println("that was in run " + run);
            }
        }
        Check.end();
    }

    private static void begin(int run) {
        random = new Random(run);
        // 0: the edges of int; else so many different ints.
        range = new int[] {0, 2, 4, 7, 12, 40}[run % 6];
        x = new TripleTrees();
        model = new ArrayList<>();
        changed = 0;
        matchesOf = new ArrayList<>();
        for (int c = 0; c < 8; c++) {
            matchesOf.add(null);
        }
        orderOf = new int[8];
        indexOf = new int[8];
        stale = new boolean[8];
    }

    private static int number() {
        return range == 0 ? EDGES[random.nextInt(EDGES.length)] : random.nextInt(range) - range / 2;
    }

    /** Mostly one of the first so many numbers, now and then none of them. */
    private static int choice(int count) {
        return random.nextInt(12) == 0 ? EDGES[random.nextInt(EDGES.length)] + random.nextInt(2) * count
            : random.nextInt(count);
    }

    private static void call() {
        int kind = random.nextInt(40);
        if (kind < 4) {
            addOne();
        } else if (kind < 6) {
            removeOne();
        } else if (kind < 7) {
            removeSome();
        } else if (kind < 11) {
            openOne();
        } else if (kind < 18) {
            goOn(random.nextInt(2) == 0);
        } else if (kind < 22) {
            partOfOne();
        } else if (kind < 24) {
            closeOne();
        } else if (kind < 34) {
            countSome();
        } else {
            chainSome();
        }
    }

    private static void changedNow() {
        changed++;
        for (int c = 0; c < 8; c++) {
            stale[c] = true;
        }
    }

    private static boolean matches(int[] t, int mask, int s, int p, int o) {
        return ((mask & 1) == 0 || t[0] == s) && ((mask & 2) == 0 || t[1] == p) && ((mask & 4) == 0 || t[2] == o);
    }

    private static boolean isMask(int mask) {
        return mask >= 0 && mask <= 7;
    }

    private static List<int[]> matching(int mask, int s, int p, int o) {
        List<int[]> found = new ArrayList<>();
        for (int[] t : model) {
            if (matches(t, mask, s, p, o)) {
                found.add(t);
            }
        }
        return found;
    }

    private static int compare(int order, int[] t, int[] u) {
        int[][] turns = {{0, 1, 2}, {1, 2, 0}, {2, 0, 1}};
        for (int part : turns[order]) {
            if (t[part] != u[part]) {
                return Integer.compare(t[part], u[part]);
            }
        }
        return 0;
    }

    private static int orderOfMask(int mask) {
        return mask == 2 || mask == 6 ? 1 : mask == 4 || mask == 5 ? 2 : 0;
    }

    private static void addOne() {
        int s = number();
        int p = number();
        int o = number();
        boolean there = !matching(7, s, p, o).isEmpty();
        Check.due("add", x.add(s, p, o), there ? 0 : 1);
        if (!there) {
            model.add(new int[] {s, p, o});
            changedNow();
        }
    }

    private static void removeOne() {
        int[] t = {number(), number(), number()};
        if (random.nextInt(3) > 0 && !model.isEmpty()) {
            t = model.get(random.nextInt(model.size()));
        }
        List<int[]> gone = matching(7, t[0], t[1], t[2]);
        Check.due("remove", x.remove(t[0], t[1], t[2]), !gone.isEmpty());
        take(gone);
    }

    private static void removeSome() {
        int mask = random.nextInt(6) == 0 ? choice(8) : 1 + random.nextInt(7);
        int s = number();
        int p = number();
        int o = number();
        if (!isMask(mask)) {
            Check.due("removeAll by no mask", x.removeAll(mask, s, p, o), NONE);
            return;
        }
        List<int[]> gone = matching(mask, s, p, o);
        Check.due("removeAll", x.removeAll(mask, s, p, o), gone.size());
        take(gone);
    }

    private static void take(List<int[]> gone) {
        for (int[] t : gone) {
            model.remove(t);
            changedNow();
        }
    }

    private static void openOne() {
        int mask = choice(8);
        int s = number();
        int p = number();
        int o = number();
        int got = x.open(mask, s, p, o);
        int least = matchesOf.indexOf(null);
        if (!isMask(mask)) {
            Check.due("open by no mask", got, NONE);
        } else if (least < 0) {
            Check.due("open, all open", got, FULL);
        } else {
            Check.due("open", got, least);
            int order = orderOfMask(mask);
            List<int[]> found = matching(mask, s, p, o);
            found.sort((t, u) -> compare(order, t, u));
            matchesOf.set(least, found);
            orderOf[least] = order;
            indexOf[least] = -1;
            stale[least] = false;
        }
    }

    private static boolean isOpen(int cursor) {
        return cursor >= 0 && cursor < 8 && matchesOf.get(cursor) != null;
    }

    private static void goOn(boolean seeks) {
        int c = choice(8);
        int[] told = {number(), number(), number()};
        int got = seeks ? x.seek(c, told[0], told[1], told[2]) : x.next(c);
        String call = seeks ? "seek" : "next";
        if (!isOpen(c)) {
            Check.due(call + " of one not open", got, NONE);
            return;
        }
        if (stale[c]) {
            Check.due(call + " of a stale one", got, STALE);
            return;
        }
        int[] least = new int[3];
        for (int i = 0; i < 3; i++) {
            least[(orderOf[c] + i) % 3] = told[i];
        }
        List<int[]> found = matchesOf.get(c);
        int index = Math.min(indexOf[c] + 1, found.size());
        while (seeks && index < found.size() && compare(orderOf[c], found.get(index), least) < 0) {
            index++;
        }
        indexOf[c] = index;
        Check.due(call, got, index < found.size() ? 1 : 0);
    }

    private static void partOfOne() {
        int c = choice(8);
        int i = choice(3);
        int want = 0;
        if (isOpen(c) && !stale[c] && i >= 0 && i < 3) {
            int index = indexOf[c];
            List<int[]> found = matchesOf.get(c);
            want = index >= 0 && index < found.size() ? found.get(index)[i] : 0;
        }
        Check.due("part", x.part(c, i), want);
    }

    private static void closeOne() {
        int c = choice(8);
        Check.due("close", x.close(c), isOpen(c));
        if (isOpen(c)) {
            matchesOf.set(c, null);
        }
    }

    private static void countSome() {
        int[] t = {number(), number(), number()};
        int which = choice(3);
        boolean right = which >= 0 && which < 3;
        switch (random.nextInt(7)) {
            case 0:
                int mask = choice(8);
                Check.due("many", x.many(mask, t[0], t[1], t[2]),
                    isMask(mask) ? matching(mask, t[0], t[1], t[2]).size() : NONE);
                break;
            case 1:
                atOne(which, right);
                break;
            case 2:
                Check.due("before", x.before(which, t[0], t[1], t[2]), right ? countBefore(which, t) : NONE);
                break;
            case 3:
                Check.due("different", x.different(which), right ? countDifferent(which) : NONE);
                break;
            case 4:
                Check.due("size", x.size(), model.size());
                break;
            case 5:
                Check.due("changes", x.changes(), changed);
                break;
            default:
                Check.due("holds", x.holds(t[0], t[1], t[2]), !matching(7, t[0], t[1], t[2]).isEmpty());
        }
    }

    private static void atOne(int order, boolean right) {
        int k = choice(model.size() + 1);
        int i = choice(3);
        int want = 0;
        if (right && k >= 0 && k < model.size() && i >= 0 && i < 3) {
            List<int[]> sorted = new ArrayList<>(model);
            sorted.sort((t, u) -> compare(order, t, u));
            want = sorted.get(k)[i];
        }
        Check.due("at", x.at(order, k, i), want);
    }

    private static int countBefore(int order, int[] t) {
        int count = 0;
        for (int[] u : model) {
            count += compare(order, u, t) < 0 ? 1 : 0;
        }
        return count;
    }

    private static int countDifferent(int part) {
        Set<Integer> different = new HashSet<>();
        for (int[] t : model) {
            different.add(t[part]);
        }
        return different.size();
    }

    private static void chainSome() {
        int p = number();
        int from = number();
        int to = number();
        switch (random.nextInt(3)) {
            case 0:
                Check.due("chains", x.chains(p, to), countChains(p, to));
                break;
            case 1:
                Check.due("far", x.far(p, from, to), countSteps(p, from, to));
                break;
            default:
                Check.due("reached", x.reached(p, from), allReached(p, from, model.size()).size());
        }
    }

    private static int countChains(int p, int q) {
        int pairs = 0;
        for (int[] t : model) {
            for (int[] u : model) {
                pairs += t[1] == p && u[1] == q && t[2] == u[0] ? 1 : 0;
            }
        }
        return pairs;
    }

    private static int countSteps(int p, int from, int to) {
        for (int steps = 0; steps <= model.size(); steps++) {
            Set<Integer> there = allReached(p, from, steps);
            if (there.contains(to)) {
                return steps;
            }
            if (there.size() < steps) {
                return NONE;
            }
        }
        return NONE;
    }

    private static Set<Integer> allReached(int p, int from, int steps) {
        Set<Integer> there = new HashSet<>();
        there.add(from);
        for (int i = 0; i < steps; i++) {
            Set<Integer> more = new HashSet<>(there);
            for (int[] t : model) {
                if (t[1] == p && there.contains(t[0])) {
                    more.add(t[2]);
                }
            }
            if (more.size() == there.size()) {
                break;
            }
            there = more;
        }
        return there;
    }
}
