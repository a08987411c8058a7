import java.math.BigInteger;
import java.util.ArrayList;
import java.util.Comparator;
import java.util.List;
import java.util.Map;
import java.util.TreeMap;
import java.util.TreeSet;

/** The document once more, by trying everything out: slow, and with nothing of the class's ways. */
final class SlowOrchard {
    static final int NONE = -6, UNKNOWN = -1, OUTSIDE = -2, STATE = -3, FULL = -4, NO = -5;
    static final long LOST = -1000000000000000000L;

    static final class Person {
        int apples, bag, heap;
        boolean dog, lamp, out;
        Integer last;
        TreeSet<Integer> robbed = new TreeSet<>();

        Person copy() {
            Person p = new Person();
            p.apples = apples;
            p.bag = bag;
            p.heap = heap;
            p.dog = dog;
            p.lamp = lamp;
            p.out = out;
            p.last = last;
            p.robbed = new TreeSet<>(robbed);
            return p;
        }
    }

    static final class World {
        TreeMap<Integer, Person> people = new TreeMap<>();
        int frost = 10;
        List<int[]> sights = new ArrayList<>();

        World copy() {
            World w = new World();
            for (Map.Entry<Integer, Person> e : people.entrySet()) {
                w.people.put(e.getKey(), e.getValue().copy());
            }
            w.frost = frost;
            w.sights = new ArrayList<>(sights);
            return w;
        }

        int reason(int a, int b, boolean now) {
            Person p = people.get(a), q = people.get(b);
            if (p == null || q == null) return 1;
            if (a == b) return 2;
            if (p.robbed.contains(b)) return 3;
            if (now && p.out) return 4;
            if (q.dog && !q.lamp) return 5;
            if (q.apples == 0) return 6;
            if (now && frost == 0) return 7;
            return 0;
        }

        void rob(int a, int b) {
            Person p = people.get(a), q = people.get(b);
            int taken = p.bag < q.apples ? p.bag : q.apples;
            q.apples -= taken;
            p.heap += taken;
            p.robbed.add(b);
            p.out = true;
            p.last = b;
        }

        /** The reason, or 0 and the act is done. */
        int act(String text) {
            char c = text.charAt(0);
            if (c == '.') {
                if (frost == 0) return 7;
                frost--;
                for (Person p : people.values()) {
                    p.out = false;
                    p.last = null;
                }
                return 0;
            }
            if (c == '$') {
                for (Person p : people.values()) {
                    p.out = false;
                    p.last = null;
                    p.robbed.clear();
                }
                return 0;
            }
            int a = c - 'A';
            char d = text.charAt(1);
            Person p = people.get(a);
            if (d >= 'A' && d <= 'F') {
                int why = reason(a, d - 'A', true);
                if (why == 0) rob(a, d - 'A');
                return why;
            }
            if (p == null) return 1;
            if (d == '*') {
                p.lamp = !p.lamp;
            } else if (d == '~') {
                p.dog = !p.dog;
            } else {
                if (!p.out || p.last == null || !people.containsKey(p.last)) return 8;
                Person q = people.get(p.last);
                for (int i = 0; i < 9 && p.heap > 0; i++) {
                    p.heap--;
                    if (q.apples < 99) q.apples++;
                }
            }
            return 0;
        }
    }

    World world = new World();
    World[] kept = new World[2];
    StringBuilder pad = new StringBuilder();

    private boolean there(int n) {
        return world.people.containsKey(n);
    }

    private boolean two(int a, int b) {
        return there(a) && there(b) && a != b;
    }

    private static boolean in(int v, int low, int high) {
        return low <= v && v <= high;
    }

    int neighbour(int n, int apples, int bag) {
        if (n < 0 || n > 5) return UNKNOWN;
        if (!in(apples, 0, 99) || !in(bag, 1, 20)) return OUTSIDE;
        Person p = world.people.computeIfAbsent(n, k -> new Person());
        p.apples = apples;
        p.bag = bag;
        return world.people.size();
    }

    int move(int n) {
        if (!there(n)) return UNKNOWN;
        world.people.remove(n);
        for (Person p : world.people.values()) {
            p.robbed.remove(n);
            if (p.last != null && p.last == n) p.last = null;
        }
        return world.people.size();
    }

    int frost(int f) {
        if (!in(f, 0, 30)) return OUTSIDE;
        int was = world.frost;
        world.frost = f;
        return was;
    }

    int say(int c) {
        if (!in(c, 33, 126)) return OUTSIDE;
        if (pad.length() == 60) return FULL;
        pad.append((char) c);
        return pad.length();
    }

    int wipe() {
        int was = pad.length();
        pad = new StringBuilder();
        return was;
    }

    int fault() {
        String whole = "([A-F][A-F*~!]|[.$])*";
        for (int i = 0; i < pad.length(); i++) {
            if (!pad.substring(0, i + 1).matches(whole + "[A-F]?")) return i;
        }
        return pad.toString().matches(whole) ? NONE : pad.length();
    }

    private List<String> acts() {
        List<String> list = new ArrayList<>();
        for (int i = 0; i < pad.length(); ) {
            int n = pad.charAt(i) == '.' || pad.charAt(i) == '$' ? 1 : 2;
            list.add(pad.substring(i, i + n));
            i += n;
        }
        return list;
    }

    int judge(int what) {
        if (!in(what, 0, 1)) return OUTSIDE;
        if (fault() != NONE) return NO;
        World w = world.copy();
        List<String> list = acts();
        for (int i = 0; i < list.size(); i++) {
            int why = w.act(list.get(i));
            if (why != 0) return what == 0 ? i : why;
        }
        return NONE;
    }

    private World after() {
        World w = world.copy();
        for (String a : acts()) w.act(a);
        return w;
    }

    int done() {
        if (fault() != NONE || judge(0) != NONE) return NO;
        int n = acts().size();
        world = after();
        pad = new StringBuilder();
        return n;
    }

    private static int of(Person p, int what) {
        if (what == 0) return p.apples;
        if (what == 1) return p.heap;
        if (what == 2) return p.out ? 1 : 0;
        int bits = 0;
        for (int r : p.robbed) bits += 1 << r;
        return bits;
    }

    int state(int n, int what) {
        if (!there(n)) return UNKNOWN;
        if (!in(what, 0, 3)) return OUTSIDE;
        return of(world.people.get(n), what);
    }

    int behind(int n, int what) {
        if (!there(n)) return UNKNOWN;
        if (!in(what, 0, 3)) return OUTSIDE;
        if (fault() != NONE || judge(0) != NONE) return NO;
        return of(after().people.get(n), what);
    }

    int trees(int what) {
        if (!in(what, 0, 2)) return OUTSIDE;
        if (what == 2) {
            int best = NONE, heap = -1;
            for (int n : world.people.keySet()) {
                if (world.people.get(n).heap > heap) {
                    best = n;
                    heap = world.people.get(n).heap;
                }
            }
            return best;
        }
        int bits = 0;
        for (int n : world.people.keySet()) {
            boolean robbed = false;
            for (Person p : world.people.values()) robbed |= p.robbed.contains(n);
            if (what == 0 ? world.people.get(n).apples == 0 : !robbed) bits |= 1 << n;
        }
        return bits;
    }

    int may(int n) {
        if (!there(n)) return UNKNOWN;
        int bits = 0;
        for (int b = 0; b < 6; b++) if (world.reason(n, b, true) == 0) bits |= 1 << b;
        return bits;
    }

    int safe() {
        int bits = 0;
        for (int b : world.people.keySet()) {
            boolean can = false;
            for (int a : world.people.keySet()) can |= world.reason(a, b, false) == 0;
            if (!can) bits |= 1 << b;
        }
        return bits;
    }

    private int wanted(int tree, int bag) {
        int n = 0;
        for (int left = world.people.get(tree).apples; left > 0; left -= bag) n++;
        return n;
    }

    int stripped(int bag) {
        if (!in(bag, 1, 20)) return OUTSIDE;
        List<Integer> trees = new ArrayList<>(world.people.keySet());
        for (int k = 0; k <= 6; k++) {
            if (place(trees, 0, -1, 0, bag, k, new int[6])) return k;
        }
        return NONE;
    }

    /** Puts the thefts of tree after tree on thieves in rising order, none of whom goes out more than k times. */
    private boolean place(List<Integer> trees, int i, int lastThief, int put, int bag, int k, int[] load) {
        if (i == trees.size()) return true;
        int tree = trees.get(i);
        if (put == wanted(tree, bag)) return place(trees, i + 1, -1, 0, bag, k, load);
        for (int t = lastThief + 1; t < 6; t++) {
            if (load[t] < k && world.reason(t, tree, false) == 0) {
                load[t]++;
                boolean ok = place(trees, i, t, put + 1, bag, k, load);
                load[t]--;
                if (ok) return true;
            }
        }
        return false;
    }

    int thefts(int bag, int k) {
        if (!in(bag, 1, 20) || !in(k, 0, 5)) return OUTSIDE;
        int[][] room = new int[14][14];
        for (int t : world.people.keySet()) {
            room[12][t] = k;
            room[6 + t][13] = wanted(t, bag);
            for (int b : world.people.keySet()) {
                if (world.reason(t, b, false) == 0) room[t][6 + b] = 1;
            }
        }
        int flow = 0;
        while (push(room, 12, new boolean[14])) flow++;
        return flow;
    }

    private static boolean push(int[][] room, int at, boolean[] met) {
        if (at == 13) return true;
        met[at] = true;
        for (int to = 0; to < 14; to++) {
            if (!met[to] && room[at][to] > 0 && push(room, to, met)) {
                room[at][to]--;
                room[to][at]++;
                return true;
            }
        }
        return false;
    }

    /** The longest row from at to goal; closing: the goal is where the row began. */
    private int longest(int at, int goal, List<Integer> row, boolean closing) {
        int best = NONE;
        for (int b = 0; b < 6; b++) {
            if (world.reason(at, b, false) != 0) continue;
            if (b == goal) {
                best = Math.max(best, row.size() + (closing ? 0 : 1));
            } else if (!row.contains(b)) {
                row.add(b);
                best = Math.max(best, longest(b, goal, row, closing));
                row.remove(row.size() - 1);
            }
        }
        return best;
    }

    int round() {
        int best = NONE;
        for (int a : world.people.keySet()) {
            best = Math.max(best, longest(a, a, new ArrayList<>(List.of(a)), true));
        }
        return best;
    }

    int chain(int from, int to) {
        if (!two(from, to)) return UNKNOWN;
        return longest(from, to, new ArrayList<>(List.of(from)), false);
    }

    int exchange(int first, int second, int tree) {
        if (!two(first, second) || !two(first, tree) || !two(second, tree)) return UNKNOWN;
        int left = Math.max(0, world.people.get(tree).apples - world.people.get(first).bag);
        return Math.min(left, world.people.get(second).bag);
    }

    int seen(int n, int apples) {
        if (!there(n)) return UNKNOWN;
        if (!in(apples, 0, 99)) return OUTSIDE;
        if (world.sights.size() == 8) return FULL;
        world.sights.add(new int[] {n, apples});
        return world.sights.size();
    }

    int forget() {
        int was = world.sights.size();
        world.sights.clear();
        return was;
    }

    /** Each row that fits: what is left on the six trees, and behind them who was out. */
    private void rows(World w, int n, int out, List<int[]> list) {
        if (n == 6) {
            int[] row = new int[7];
            for (int i = 0; i < 6; i++) row[i] = w.people.containsKey(i) ? w.people.get(i).apples : -1;
            row[6] = out;
            for (int[] s : w.sights) if (row[s[0]] != s[1]) return;
            list.add(row);
            return;
        }
        rows(w, n + 1, out, list);
        for (int b = 0; b < 6; b++) {
            if (w.reason(n, b, true) == 0) {
                World next = w.copy();
                next.rob(n, b);
                rows(next, n + 1, out | 1 << n, list);
            }
        }
    }

    int boots(int what) {
        if (!in(what, 0, 2)) return OUTSIDE;
        List<int[]> list = new ArrayList<>();
        rows(world, 0, 0, list);
        if (what == 0) return list.size();
        int some = 0, all = 63;
        for (int[] row : list) {
            some |= row[6];
            all &= row[6];
        }
        return what == 1 ? some : list.isEmpty() ? 0 : all;
    }

    int look(int what) {
        if (!in(what, 0, 1)) return OUTSIDE;
        List<int[]> list = new ArrayList<>();
        rows(world, 0, 0, list);
        if (list.isEmpty()) return NONE;
        int tree = NONE, fewest = NONE;
        for (int n : world.people.keySet()) {
            if (world.sights.stream().anyMatch(s -> s[0] == n)) continue;
            TreeMap<Integer, Integer> by = new TreeMap<>();
            for (int[] row : list) by.merge(row[n], 1, Integer::sum);
            int most = by.values().stream().max(Comparator.naturalOrder()).get();
            if (tree == NONE || most < fewest) {
                tree = n;
                fewest = most;
            }
        }
        return what == 0 ? tree : fewest;
    }

    private int best(int taker, int other, List<Integer> trees) {
        if (trees.isEmpty()) return 0;
        int best = Integer.MIN_VALUE;
        for (int tree : trees) best = Math.max(best, taking(taker, other, trees, tree));
        return best;
    }

    private int taking(int taker, int other, List<Integer> trees, int tree) {
        List<Integer> rest = new ArrayList<>(trees);
        rest.remove(Integer.valueOf(tree));
        int got = Math.min(world.people.get(taker).bag, world.people.get(tree).apples);
        return got - best(other, taker, rest);
    }

    int duel(int first, int second, int set, int what) {
        if (!two(first, second)) return UNKNOWN;
        List<Integer> trees = new ArrayList<>();
        for (int b = 0; b < 32; b++) {
            if ((set >>> b & 1) == 1) {
                if (!there(b)) return UNKNOWN;
                trees.add(b);
            }
        }
        if (!in(what, 0, 1)) return OUTSIDE;
        int lead = best(first, second, trees);
        if (what == 0) return lead + 1000;
        for (int tree : trees) if (taking(first, second, trees, tree) == lead) return tree;
        return NONE;
    }

    long caught(int n, int o, int t, int what, int part) {
        if (!two(n, o)) return LOST + UNKNOWN;
        if (!in(t, 0, 10) || !in(what, 0, 1) || !in(part, 0, 1)) return LOST + OUTSIDE;
        if (world.reason(n, o, true) != 0) return LOST + STATE;
        World w = world.copy();
        w.rob(n, o);
        long now = world.people.get(n).heap, then = w.people.get(n).heap;
        long less = then < 9 ? 0 : then - 9;
        long upper = 0;
        for (int chance = 0; chance < 10; chance++) {
            long heap = chance < t ? less : then;
            upper += what == 0 ? heap : heap > now ? 1 : 0;
        }
        long g = BigInteger.valueOf(upper).gcd(BigInteger.TEN).longValue();
        return part == 0 ? upper / g : 10 / g;
    }

    int moons(int n, int m) {
        if (!there(n)) return UNKNOWN;
        if (!in(m, 0, 60)) return OUTSIDE;
        List<Integer> order = new ArrayList<>(world.people.keySet());
        order.sort(Comparator.comparingInt((Integer i) -> world.people.get(i).heap).thenComparingInt(i -> i));
        int mine = 0;
        for (int moon = 0; moon < m; moon++) if (order.get(moon % order.size()) == n) mine++;
        return mine;
    }

    int year(int seed, int m, int what) {
        if (!in(seed, 0, 9999) || !in(m, 1, 99) || !in(what, 0, 2)) return OUTSIDE;
        World w = world.copy();
        long x = seed;
        int often = 0;
        for (int i = 0; i < m; i++) {
            x = (75 * x + 74) % 65537;
            String a = String.valueOf((char) ('A' + x / 8 % 6));
            String b = String.valueOf((char) ('A' + x / 64 % 6));
            int kind = (int) (x % 8);
            String act = kind == 0 ? "." : a + (kind == 1 ? "*" : kind == 2 ? "~" : kind == 3 ? "!" : b);
            if (w.act(act) == 0 && kind > 3) often++;
        }
        int heaps = 0, apples = 0;
        for (Person p : w.people.values()) {
            heaps += p.heap;
            apples += p.apples;
        }
        return what == 0 ? heaps : what == 1 ? apples : often;
    }

    int image(int n) {
        if (!in(n, 0, 1)) return OUTSIDE;
        kept[n] = world.copy();
        return 1;
    }

    int restore(int n) {
        if (!in(n, 0, 1)) return OUTSIDE;
        if (kept[n] == null) return STATE;
        world = kept[n].copy();
        return 1;
    }

    int told(int what) {
        int dogs = 0, lamps = 0, here = 0;
        for (int n : world.people.keySet()) {
            here |= 1 << n;
            if (world.people.get(n).dog) dogs |= 1 << n;
            if (world.people.get(n).lamp) lamps |= 1 << n;
        }
        switch (what) {
            case 0: return pad.length();
            case 1: return here;
            case 2: return world.frost;
            case 3: return dogs;
            case 4: return lamps;
            case 5: return world.sights.size();
            default: return what >= 10 && there(what - 10) ? world.people.get(what - 10).bag : OUTSIDE;
        }
    }
}
