import java.util.Arrays;

/**
 * An orchard land in which apples may only be stolen: neighbours with trees, bags, heaps, dogs and
 * lamps, nights told as small texts, and what can be reckoned from them.
 */
public final class StolenApples {
    public static final int NONE = -6, UNKNOWN = -1, OUTSIDE = -2, STATE = -3, FULL = -4, NO = -5;
    public static final long LOST = -1000000000000000000L;

    private static final int PLACES = 6;
    private static final int SETS = 1 << PLACES;
    private static final int MOST_APPLES = 99;
    private static final int MOST_BAG = 20;
    private static final int MOST_FROST = 30;
    private static final int FIRST_FROST = 10;
    private static final int MOST_SIGNS = 60;
    private static final int LEAST_SIGN = 33;
    private static final int MOST_SIGN = 126;
    private static final int MOST_SIGHTS = 8;
    private static final int MOST_MOONS = 60;
    private static final int MOST_SEED = 9999;
    private static final int MOST_YEAR = 99;
    private static final int IMAGES = 2;
    private static final int GIVEN_BACK = 9;
    private static final int TENTHS = 10;
    private static final int EVEN_DUEL = 1000;
    private static final int BAGS_TOLD_FROM = 10;
    /** Nobody has more than five others to rob, each once, so more nights never help. */
    private static final int MOST_NIGHTS = PLACES - 1;

    /** The kinds of ACTS; but for robbing, the sign itself. */
    private static final int ROB = 0;
    private static final int NIGHT_ENDS = '.';
    private static final int YEAR_ENDS = '$';
    private static final int LAMP = '*';
    private static final int DOG = '~';
    private static final int CATCH = '!';

    /** Why an ACT can not be. */
    private static final int NOTHING_BARS = 0;
    private static final int NOT_THERE = 1;
    private static final int SAME_ONE = 2;
    private static final int HAS_ROBBED = 3;
    private static final int WAS_OUT = 4;
    private static final int DOG_IN_THE_DARK = 5;
    private static final int TREE_BARE = 6;
    private static final int FROST_HERE = 7;
    private static final int NOBODY_TO_PAY = 8;

    private final Land land;
    private final Land draft;
    private final Land[] images;
    private final Nights nights;
    private final Paths paths;
    private final Rows rows;
    private final Turns turns;

    public StolenApples() {
        land = new Land();
        draft = new Land();
        images = new Land[IMAGES];
        nights = new Nights();
        paths = new Paths();
        rows = new Rows();
        turns = new Turns();
    }

    // ---- 1 neighbours, nights

    public int neighbour(int neighbour, int apples, int bag) {
        if (!within(neighbour, 0, PLACES - 1)) {
            return UNKNOWN;
        }
        if (!within(apples, 0, MOST_APPLES) || !within(bag, 1, MOST_BAG)) {
            return OUTSIDE;
        }
        land.settle(neighbour, apples, bag);
        return land.count();
    }

    public int move(int neighbour) {
        if (!land.has(neighbour)) {
            return UNKNOWN;
        }
        land.leave(neighbour);
        return land.count();
    }

    public int frost(int nights) {
        if (!within(nights, 0, MOST_FROST)) {
            return OUTSIDE;
        }
        int before = land.frost;
        land.frost = nights;
        return before;
    }

    public int say(int sign) {
        if (!within(sign, LEAST_SIGN, MOST_SIGN)) {
            return OUTSIDE;
        }
        return nights.write(sign) ? nights.length : FULL;
    }

    public int wipe() {
        int before = nights.length;
        nights.length = 0;
        return before;
    }

    public int fault() {
        return nights.faultPlace();
    }

    // ---- 2 nights

    public int judge(int what) {
        if (!within(what, 0, 1)) {
            return OUTSIDE;
        }
        if (nights.faultPlace() != NONE) {
            return NO;
        }
        if (draftNights()) {
            return NONE;
        }
        return what == 0 ? nights.acts : nights.why;
    }

    public int done() {
        if (!draftNights()) {
            return NO;
        }
        land.become(draft);
        nights.length = 0;
        return nights.acts;
    }

    public int state(int neighbour, int what) {
        if (!land.has(neighbour)) {
            return UNKNOWN;
        }
        if (!within(what, 0, 3)) {
            return OUTSIDE;
        }
        return land.tell(neighbour, what);
    }

    public int behind(int neighbour, int what) {
        if (!land.has(neighbour)) {
            return UNKNOWN;
        }
        if (!within(what, 0, 3)) {
            return OUTSIDE;
        }
        return draftNights() ? draft.tell(neighbour, what) : NO;
    }

    public int trees(int what) {
        switch (what) {
            case 0:
                return land.bareTrees();
            case 1:
                return land.here & ~land.robbedTrees();
            case 2:
                return land.greatestHeap();
            default:
                return OUTSIDE;
        }
    }

    public int may(int neighbour) {
        return land.has(neighbour) ? land.canRobNow(neighbour) : UNKNOWN;
    }

    public int safe() {
        int open = 0;
        for (int thief = 0; thief < PLACES; thief++) {
            open |= land.mayRobOf(thief);
        }
        return land.here & ~open;
    }

    // ---- 3 all bare, rounds

    public int stripped(int bag) {
        if (!within(bag, 1, MOST_BAG)) {
            return OUTSIDE;
        }
        int wanted = land.wantedTogether(bag);
        for (int night = 0; night <= MOST_NIGHTS; night++) {
            if (mostThefts(land, bag, night) == wanted) {
                return night;
            }
        }
        return NONE;
    }

    public int thefts(int bag, int k) {
        if (!within(bag, 1, MOST_BAG) || !within(k, 0, MOST_NIGHTS)) {
            return OUTSIDE;
        }
        return mostThefts(land, bag, k);
    }

    public int round() {
        return paths.longestRound(land);
    }

    public int chain(int from, int to) {
        if (!land.hasTwo(from, to)) {
            return UNKNOWN;
        }
        return paths.longestChain(land, from, to);
    }

    public int exchange(int first, int second, int tree) {
        if (!land.hasTwo(first, second) || !land.hasTwo(first, tree) || !land.hasTwo(second, tree)) {
            return UNKNOWN;
        }
        int left = land.apples[tree] - land.load(first, tree);
        return Math.min(left, land.bags[second]);
    }

    // ---- 4 boots, duels, catches

    public int seen(int neighbour, int apples) {
        if (!land.has(neighbour)) {
            return UNKNOWN;
        }
        if (!within(apples, 0, MOST_APPLES)) {
            return OUTSIDE;
        }
        return land.addSight(neighbour, apples) ? land.sights : FULL;
    }

    public int forget() {
        int before = land.sights;
        land.sights = 0;
        return before;
    }

    public int boots(int what) {
        if (!within(what, 0, 2)) {
            return OUTSIDE;
        }
        rows.countWithout(land, NONE);
        if (what == 0) {
            return rows.total();
        }
        return what == 1 ? rows.outInSome() : rows.outInAll();
    }

    public int look(int what) {
        if (!within(what, 0, 1)) {
            return OUTSIDE;
        }
        rows.countWithout(land, NONE);
        if (rows.total() == 0) {
            return NONE;
        }
        int bestTree = NONE;
        int fewest = NONE;
        for (int tree = 0; tree < PLACES; tree++) {
            if (land.has(tree) && !land.hasSightOf(tree)) {
                int most = rows.mostLeftBy(land, tree);
                if (bestTree == NONE || most < fewest) {
                    bestTree = tree;
                    fewest = most;
                }
            }
        }
        return what == 0 ? bestTree : fewest;
    }

    public int duel(int first, int second, int trees, int what) {
        if (!land.hasTwo(first, second) || (trees & ~land.here) != 0) {
            return UNKNOWN;
        }
        if (!within(what, 0, 1)) {
            return OUTSIDE;
        }
        turns.play(land, first, second, trees);
        return what == 0 ? turns.lead + EVEN_DUEL : turns.opening;
    }

    public long caught(int neighbour, int other, int t, int what, int part) {
        if (!land.hasTwo(neighbour, other)) {
            return LOST + UNKNOWN;
        }
        if (!within(t, 0, TENTHS) || !within(what, 0, 1) || !within(part, 0, 1)) {
            return LOST + OUTSIDE;
        }
        if (land.robBar(neighbour, other) != NOTHING_BARS) {
            return LOST + STATE;
        }
        int now = land.heaps[neighbour];
        int free = now + land.load(neighbour, other);
        int caught = Math.max(0, free - GIVEN_BACK);
        int upper;
        if (what == 0) {
            upper = (TENTHS - t) * free + t * caught;
        } else {
            upper = (free > now ? TENTHS - t : 0) + (caught > now ? t : 0);
        }
        int shared = sharedWithTenths(upper);
        return part == 0 ? upper / shared : TENTHS / shared;
    }

    public int moons(int neighbour, int m) {
        if (!land.has(neighbour)) {
            return UNKNOWN;
        }
        if (!within(m, 0, MOST_MOONS)) {
            return OUTSIDE;
        }
        int count = Math.max(1, land.count());
        int extra = land.smallerHeaps(neighbour) < m % count ? 1 : 0;
        return m / count + extra;
    }

    public int year(int seed, int m, int what) {
        if (!within(seed, 0, MOST_SEED) || !within(m, 1, MOST_YEAR) || !within(what, 0, 2)) {
            return OUTSIDE;
        }
        draft.become(land);
        int robberies = draft.runYear(seed, m);
        if (what == 0) {
            return draft.heapsTogether();
        }
        return what == 1 ? draft.applesTogether() : robberies;
    }

    public int image(int n) {
        if (!within(n, 0, IMAGES - 1)) {
            return OUTSIDE;
        }
        if (images[n] == null) {
            images[n] = new Land();
        }
        images[n].become(land);
        return 1;
    }

    public int restore(int n) {
        if (!within(n, 0, IMAGES - 1)) {
            return OUTSIDE;
        }
        if (images[n] == null) {
            return STATE;
        }
        land.become(images[n]);
        return 1;
    }

    public int told(int what) {
        switch (what) {
            case 0:
                return nights.length;
            case 1:
                return land.here;
            case 2:
                return land.frost;
            case 3:
                return land.dogs;
            case 4:
                return land.lamps;
            case 5:
                return land.sights;
            default:
                return toldBag(what);
        }
    }

    private int toldBag(int what) {
        // The range is looked at first, for what - 10 could wrap round to a neighbour's number.
        if (!within(what, BAGS_TOLD_FROM, BAGS_TOLD_FROM + PLACES - 1)) {
            return OUTSIDE;
        }
        int neighbour = what - BAGS_TOLD_FROM;
        return land.has(neighbour) ? land.bags[neighbour] : OUTSIDE;
    }

    /** Whether the NIGHTS on the pad can all be; the draft is the land behind them then. */
    private boolean draftNights() {
        if (nights.faultPlace() != NONE) {
            return false;
        }
        draft.become(land);
        return nights.runOn(draft);
    }

    private static boolean within(int value, int least, int most) {
        return value >= least && value <= most;
    }

    /** The greatest number by which both the given one and ten can be cut. */
    private static int sharedWithTenths(int upper) {
        for (int divisor = TENTHS; divisor > 1; divisor--) {
            if (upper % divisor == 0 && TENTHS % divisor == 0) {
                return divisor;
            }
        }
        return 1;
    }

    /**
     * The most of the wanted thefts in so many nights. As many may be at one tree in a night, only
     * how often each thief goes out binds; so it is the greatest flow from thieves to trees, which
     * is the least cut: over the thieves who are not held back by the nights, the least sum counts.
     */
    private static int mostThefts(Land land, int bag, int night) {
        int least = land.wantedTogether(bag);
        for (int unheld = 0; unheld < SETS; unheld++) {
            int cut = night * Integer.bitCount(land.here & ~unheld);
            for (int tree = 0; tree < PLACES; tree++) {
                int thieves = Integer.bitCount(unheld & land.thievesOf(tree));
                cut += Math.min(land.wanted(tree, bag), thieves);
            }
            least = Math.min(least, cut);
        }
        return least;
    }

    /** All that an image keeps. Of those who are not there, every number is 0. */
    private static final class Land {
        final int[] apples = new int[PLACES];
        final int[] bags = new int[PLACES];
        final int[] heaps = new int[PLACES];
        /** Of each, as bits, whom he has robbed this year. */
        final int[] robbed = new int[PLACES];
        /** Of each who is out, whom he robbed last; NONE, if that one has moved since. */
        final int[] lastRobbed = new int[PLACES];
        final int[] sightTrees = new int[MOST_SIGHTS];
        final int[] sightApples = new int[MOST_SIGHTS];
        int sights = 0;
        int here = 0;
        int out = 0;
        int dogs = 0;
        int lamps = 0;
        int frost = FIRST_FROST;

        void become(Land other) {
            System.arraycopy(other.apples, 0, apples, 0, PLACES);
            System.arraycopy(other.bags, 0, bags, 0, PLACES);
            System.arraycopy(other.heaps, 0, heaps, 0, PLACES);
            System.arraycopy(other.robbed, 0, robbed, 0, PLACES);
            System.arraycopy(other.lastRobbed, 0, lastRobbed, 0, PLACES);
            System.arraycopy(other.sightTrees, 0, sightTrees, 0, MOST_SIGHTS);
            System.arraycopy(other.sightApples, 0, sightApples, 0, MOST_SIGHTS);
            sights = other.sights;
            here = other.here;
            out = other.out;
            dogs = other.dogs;
            lamps = other.lamps;
            frost = other.frost;
        }

        boolean has(int neighbour) {
            return neighbour >= 0 && neighbour < PLACES && (here & 1 << neighbour) != 0;
        }

        /** Two who are there and are not one. */
        boolean hasTwo(int first, int second) {
            return has(first) && has(second) && first != second;
        }

        int count() {
            return Integer.bitCount(here);
        }

        void settle(int neighbour, int itsApples, int bag) {
            here |= 1 << neighbour;
            apples[neighbour] = itsApples;
            bags[neighbour] = bag;
        }

        void leave(int neighbour) {
            int others = ~(1 << neighbour);
            here &= others;
            out &= others;
            dogs &= others;
            lamps &= others;
            apples[neighbour] = 0;
            bags[neighbour] = 0;
            heaps[neighbour] = 0;
            robbed[neighbour] = 0;
            for (int thief = 0; thief < PLACES; thief++) {
                robbed[thief] &= others;
                if (lastRobbed[thief] == neighbour) {
                    lastRobbed[thief] = NONE;
                }
            }
        }

        int tell(int neighbour, int what) {
            switch (what) {
                case 0:
                    return apples[neighbour];
                case 1:
                    return heaps[neighbour];
                case 2:
                    return holds(out, neighbour) ? 1 : 0;
                default:
                    return robbed[neighbour];
            }
        }

        /** How many apples one carries away from a tree, whatever bars him. */
        int load(int thief, int tree) {
            return Math.min(bags[thief], apples[tree]);
        }

        // What can be

        /** Why one can not rob another one now. */
        int robBar(int thief, int tree) {
            if (!has(thief) || !has(tree)) {
                return NOT_THERE;
            }
            if (thief == tree) {
                return SAME_ONE;
            }
            if (holds(robbed[thief], tree)) {
                return HAS_ROBBED;
            }
            if (holds(out, thief)) {
                return WAS_OUT;
            }
            if (isGuarded(tree)) {
                return DOG_IN_THE_DARK;
            }
            if (apples[tree] == 0) {
                return TREE_BARE;
            }
            return frost == 0 ? FROST_HERE : NOTHING_BARS;
        }

        boolean isGuarded(int tree) {
            return (dogs & ~lamps & 1 << tree) != 0;
        }

        /** Likewise, but whoever was out, and however near the frost is. */
        boolean mayRob(int thief, int tree) {
            return hasTwo(thief, tree) && !holds(robbed[thief], tree)
                    && !isGuarded(tree) && apples[tree] > 0;
        }

        int canRobNow(int thief) {
            int set = 0;
            for (int tree = 0; tree < PLACES; tree++) {
                if (robBar(thief, tree) == NOTHING_BARS) {
                    set |= 1 << tree;
                }
            }
            return set;
        }

        int mayRobOf(int thief) {
            int set = 0;
            for (int tree = 0; tree < PLACES; tree++) {
                if (mayRob(thief, tree)) {
                    set |= 1 << tree;
                }
            }
            return set;
        }

        int thievesOf(int tree) {
            int set = 0;
            for (int thief = 0; thief < PLACES; thief++) {
                if (mayRob(thief, tree)) {
                    set |= 1 << thief;
                }
            }
            return set;
        }

        int catchBar(int who) {
            if (!has(who)) {
                return NOT_THERE;
            }
            return holds(out, who) && has(lastRobbed[who]) ? NOTHING_BARS : NOBODY_TO_PAY;
        }

        int actBar(int kind, int who, int whom) {
            switch (kind) {
                case ROB:
                    return robBar(who, whom);
                case CATCH:
                    return catchBar(who);
                case NIGHT_ENDS:
                    return frost == 0 ? FROST_HERE : NOTHING_BARS;
                case YEAR_ENDS:
                    return NOTHING_BARS;
                default:
                    return has(who) ? NOTHING_BARS : NOT_THERE;
            }
        }

        // What happens

        /** Does an ACT, if it can be; what bars it. */
        int tryAct(int kind, int who, int whom) {
            int bar = actBar(kind, who, whom);
            if (bar != NOTHING_BARS) {
                return bar;
            }
            switch (kind) {
                case ROB:
                    rob(who, whom);
                    break;
                case CATCH:
                    giveBack(who, lastRobbed[who]);
                    break;
                case LAMP:
                    lamps ^= 1 << who;
                    break;
                case DOG:
                    dogs ^= 1 << who;
                    break;
                case NIGHT_ENDS:
                    out = 0;
                    frost--;
                    break;
                default:
                    endYear();
                    break;
            }
            return NOTHING_BARS;
        }

        void rob(int thief, int tree) {
            int taken = load(thief, tree);
            apples[tree] -= taken;
            heaps[thief] += taken;
            robbed[thief] |= 1 << tree;
            out |= 1 << thief;
            lastRobbed[thief] = tree;
        }

        void giveBack(int thief, int tree) {
            int given = Math.min(GIVEN_BACK, heaps[thief]);
            heaps[thief] -= given;
            apples[tree] = Math.min(MOST_APPLES, apples[tree] + given);
        }

        void endYear() {
            out = 0;
            Arrays.fill(robbed, 0);
        }

        /** A YEAR by draws: how often was robbed. */
        int runYear(int seed, int acts) {
            int robberies = 0;
            int draw = seed;
            for (int act = 0; act < acts; act++) {
                draw = (75 * draw + 74) % 65537;
                int kind = drawnKind(draw % 8);
                int bar = tryAct(kind, draw / 8 % PLACES, draw / 64 % PLACES);
                if (kind == ROB && bar == NOTHING_BARS) {
                    robberies++;
                }
            }
            return robberies;
        }

        // What is told of all

        int bareTrees() {
            int set = 0;
            for (int tree = 0; tree < PLACES; tree++) {
                if (has(tree) && apples[tree] == 0) {
                    set |= 1 << tree;
                }
            }
            return set;
        }

        int robbedTrees() {
            int set = 0;
            for (int thief = 0; thief < PLACES; thief++) {
                set |= robbed[thief];
            }
            return set;
        }

        int greatestHeap() {
            int best = NONE;
            for (int one = 0; one < PLACES; one++) {
                if (has(one) && (best == NONE || heaps[one] > heaps[best])) {
                    best = one;
                }
            }
            return best;
        }

        /** How many come before one, when the smallest heaps come first, and of several the least. */
        int smallerHeaps(int neighbour) {
            int before = 0;
            for (int one = 0; one < PLACES; one++) {
                boolean smaller = heaps[one] < heaps[neighbour];
                boolean asSmall = heaps[one] == heaps[neighbour] && one < neighbour;
                if (has(one) && (smaller || asSmall)) {
                    before++;
                }
            }
            return before;
        }

        int heapsTogether() {
            int sum = 0;
            for (int one = 0; one < PLACES; one++) {
                sum += heaps[one];
            }
            return sum;
        }

        int applesTogether() {
            int sum = 0;
            for (int tree = 0; tree < PLACES; tree++) {
                sum += apples[tree];
            }
            return sum;
        }

        /** How many thefts make a tree bare, each bag holding so much (1 at least). */
        int wanted(int tree, int bag) {
            return (apples[tree] + bag - 1) / Math.max(1, bag);
        }

        int wantedTogether(int bag) {
            int sum = 0;
            for (int tree = 0; tree < PLACES; tree++) {
                sum += wanted(tree, bag);
            }
            return sum;
        }

        // Sights

        boolean addSight(int tree, int count) {
            if (sights >= MOST_SIGHTS) {
                return false;
            }
            sightTrees[sights] = tree;
            sightApples[sights] = count;
            sights++;
            return true;
        }

        boolean hasSightOf(int tree) {
            for (int sight = 0; sight < sights; sight++) {
                if (sightTrees[sight] == tree) {
                    return true;
                }
            }
            return false;
        }

        /** Whether all sights of a tree are so; of one that is there no more, none is. */
        boolean fitsSights(int tree, int count) {
            for (int sight = 0; sight < sights; sight++) {
                boolean ofTree = sightTrees[sight] == tree;
                if (ofTree && (!has(tree) || sightApples[sight] != count)) {
                    return false;
                }
            }
            return true;
        }

        static boolean holds(int set, int one) {
            return (set & 1 << one) != 0;
        }

        static int drawnKind(int rest) {
            switch (rest) {
                case 0:
                    return NIGHT_ENDS;
                case 1:
                    return LAMP;
                case 2:
                    return DOG;
                case 3:
                    return CATCH;
                default:
                    return ROB;
            }
        }
    }

    /** The pad, and the run of what is written on it. */
    private static final class Nights {
        final int[] signs = new int[MOST_SIGNS];
        int length = 0;
        /** Of the last run: how many ACTS could be, and what bars the next one. */
        int acts = 0;
        int why = NOTHING_BARS;

        boolean write(int sign) {
            if (length >= MOST_SIGNS) {
                return false;
            }
            signs[length] = sign;
            length++;
            return true;
        }

        int faultPlace() {
            boolean open = false;
            for (int place = 0; place < length; place++) {
                int sign = signs[place];
                boolean canStand = open ? endsAct(sign) : isLetter(sign) || standsAlone(sign);
                if (!canStand) {
                    return place;
                }
                open = !open && isLetter(sign);
            }
            return open ? length : NONE;
        }

        /** Does the ACTS of a pad without a fault, up to the first that can not be. */
        boolean runOn(Land land) {
            acts = 0;
            why = NOTHING_BARS;
            int who = NONE;
            for (int place = 0; place < length; place++) {
                int sign = signs[place];
                if (who == NONE && isLetter(sign)) {
                    who = sign - 'A';
                    continue;
                }
                int kind = isLetter(sign) ? ROB : sign;
                why = land.tryAct(kind, who, sign - 'A');
                if (why != NOTHING_BARS) {
                    return false;
                }
                acts++;
                who = NONE;
            }
            return true;
        }

        static boolean isLetter(int sign) {
            return within(sign, 'A', 'A' + PLACES - 1);
        }

        static boolean standsAlone(int sign) {
            return sign == NIGHT_ENDS || sign == YEAR_ENDS;
        }

        static boolean endsAct(int sign) {
            return isLetter(sign) || sign == LAMP || sign == DOG || sign == CATCH;
        }
    }

    /** Rounds and chains of those who may rob one another. */
    private static final class Paths {
        /** Of each: whom he may rob. */
        final int[] next = new int[PLACES];
        /** Of each set: where a row that begins at the told one and goes through just this set can end. */
        final int[] ends = new int[SETS];

        int longestChain(Land land, int from, int to) {
            readNext(land);
            followFrom(from);
            return longestEnding(1 << to);
        }

        int longestRound(Land land) {
            readNext(land);
            int best = NONE;
            for (int from = 0; from < PLACES; from++) {
                followFrom(from);
                best = Math.max(best, longestEnding(land.thievesOf(from)));
            }
            return best;
        }

        void readNext(Land land) {
            for (int thief = 0; thief < PLACES; thief++) {
                next[thief] = land.mayRobOf(thief);
            }
        }

        /** A longer row's set is a greater number, so one pass upwards meets every row. */
        void followFrom(int from) {
            Arrays.fill(ends, 0);
            ends[1 << from] = 1 << from;
            for (int set = 0; set < SETS; set++) {
                for (int one = 0; one < PLACES; one++) {
                    int target = 1 << one;
                    if ((set & target) == 0 && leadsTo(ends[set], target)) {
                        ends[set | target] |= target;
                    }
                }
            }
        }

        boolean leadsTo(int lasts, int target) {
            for (int last = 0; last < PLACES; last++) {
                if (Land.holds(lasts, last) && (next[last] & target) != 0) {
                    return true;
                }
            }
            return false;
        }

        /** Nobody may rob himself, so a row of one never ends among those who lead on. */
        int longestEnding(int lasts) {
            int best = NONE;
            for (int set = 0; set < SETS; set++) {
                if ((ends[set] & lasts) != 0) {
                    best = Math.max(best, Integer.bitCount(set));
                }
            }
            return best;
        }
    }

    /**
     * The rows of BOOTS. What happens at a tree hangs on nothing but the set of those who come to
     * it (in their order), so rows are counted tree by tree, by the set of those who are out.
     */
    private static final class Rows {
        /** Of each set: in how many rows just these are out, at the trees counted so far. */
        final int[] ways = new int[SETS];
        /** Of each set that comes to a tree: what it leaves there; NONE, if it can not come. */
        final int[] left = new int[SETS];
        /** Of each number of apples on a tree: how many rows leave it. */
        final int[] tally = new int[MOST_APPLES + 1];

        /** Counts the rows at all trees but one (NONE: at all). */
        void countWithout(Land land, int omitted) {
            Arrays.fill(ways, 0);
            ways[0] = 1;
            for (int tree = 0; tree < PLACES; tree++) {
                if (tree != omitted) {
                    fillLeft(land, tree);
                    keepFitting(land, tree);
                    spread();
                }
            }
        }

        /** The least come first, so each thief finds what a set of lesser ones has left. */
        void fillLeft(Land land, int tree) {
            left[0] = land.apples[tree];
            for (int thief = 0; thief < PLACES; thief++) {
                boolean able = land.robBar(thief, tree) == NOTHING_BARS;
                int bit = 1 << thief;
                for (int lesser = 0; lesser < bit; lesser++) {
                    int found = left[lesser];
                    boolean comes = able && found > 0;
                    left[lesser | bit] = comes ? found - Math.min(found, land.bags[thief]) : NONE;
                }
            }
        }

        void keepFitting(Land land, int tree) {
            for (int gang = 0; gang < SETS; gang++) {
                if (left[gang] >= 0 && !land.fitsSights(tree, left[gang])) {
                    left[gang] = NONE;
                }
            }
        }

        /** Downwards, so that the smaller sets that are read are still those without this tree. */
        void spread() {
            for (int set = SETS - 1; set >= 0; set--) {
                int sum = left[0] >= 0 ? ways[set] : 0;
                for (int gang = set; gang > 0; gang = (gang - 1) & set) {
                    if (left[gang] >= 0) {
                        sum += ways[set ^ gang];
                    }
                }
                ways[set] = sum;
            }
        }

        int total() {
            return waysWithin(SETS - 1);
        }

        /** How many rows there are in which nobody else is out. */
        int waysWithin(int allowed) {
            int sum = 0;
            for (int set = 0; set < SETS; set++) {
                if ((set & ~allowed) == 0) {
                    sum += ways[set];
                }
            }
            return sum;
        }

        int outInSome() {
            int some = 0;
            for (int set = 0; set < SETS; set++) {
                if (ways[set] > 0) {
                    some |= set;
                }
            }
            return some;
        }

        int outInAll() {
            int all = SETS - 1;
            for (int set = 0; set < SETS; set++) {
                if (ways[set] > 0) {
                    all &= set;
                }
            }
            return total() == 0 ? 0 : all;
        }

        /** How many rows are left at the most, whatever is on a tree that was not seen. */
        int mostLeftBy(Land land, int tree) {
            countWithout(land, tree);
            fillLeft(land, tree);
            Arrays.fill(tally, 0);
            int most = 0;
            for (int gang = 0; gang < SETS; gang++) {
                int apples = left[gang];
                if (within(apples, 0, MOST_APPLES)) {
                    tally[apples] += waysWithin(~gang);
                    most = Math.max(most, tally[apples]);
                }
            }
            return most;
        }
    }

    /** A DUEL, played out from the empty set upwards. */
    private static final class Turns {
        /** Of each set of trees left: by how much who is to take gets more from here on. */
        final int[] leads = new int[SETS];
        int lead = 0;
        int opening = NONE;

        void play(Land land, int first, int second, int trees) {
            int all = Integer.bitCount(trees);
            lead = 0;
            opening = NONE;
            leads[0] = 0;
            for (int set = 1; set < SETS; set++) {
                if ((set & ~trees) == 0) {
                    boolean firstTakes = (all - Integer.bitCount(set)) % 2 == 0;
                    takeBest(land, firstTakes ? first : second, set);
                }
            }
        }

        /** The whole set comes last, so what stands here in the end is the first one's. */
        void takeBest(Land land, int taker, int set) {
            opening = NONE;
            for (int tree = 0; tree < PLACES; tree++) {
                if (Land.holds(set, tree)) {
                    int gain = land.load(taker, tree) - leads[set ^ (1 << tree)];
                    if (opening == NONE || gain > lead) {
                        lead = gain;
                        opening = tree;
                    }
                }
            }
            leads[set] = lead;
        }
    }
}
