/** The document's section 'Terms', 3 and 4: each sentence that names a boundary case, in its order. */
public final class EdgesTest extends Checks {
    public static void main(String[] args) {
        mayRob();
        strippedBags();
        strippedThieves();
        strippedNights();
        theftsNights();
        rounds();
        chains();
        exchanges();
        sightsLimit();
        bootsOrder();
        bootsNow();
        bootsSights();
        looks();
        duelSets();
        duelTurns();
        caughtTenths();
        caughtNine();
        caughtCan();
        moonsShared();
        moonsOver();
        yearLimits();
        yearDraws();
        yearActs();
        yearLeavesAll();
        end();
    }

    private static void mayRob() {
        sentence("who was OUT, FROST do not matter");
        StolenApples x = land(one(9, 1), one(9, 1), one(9, 1));
        after(x, "AB");
        x.frost(0);
        due("round", x.round(), 3);
        due("chain", x.chain(0, 1), 3);
        due("stripped", x.stripped(9), 1);
        due("thefts", x.thefts(9, 1), 3);
        sentence("one MAY ROB another one, if ACTS' reasons 1, 2, 3, 5, 6 do not bar it, as things are");
        StolenApples y = land(one(9, 1), one(9, 1));
        due("nothing bars", y.round(), 2);
        due("3", after(y, "AB").round(), NONE);
        due("3, in another year", after(y, "$").round(), 2);
        due("5", after(y, "A~").round(), NONE);
        due("5, but for a lamp", after(y, "A*").round(), 2);
        y.neighbour(1, 0, 1);
        due("6", y.round(), NONE);
        y.neighbour(1, 1, 1);
        due("6 not of one apple", y.round(), 2);
        y.move(1);
        due("1, 2", y.round(), NONE);
    }

    private static void strippedBags() {
        sentence("STRIPPED, each BAG holding L (1 to 20)");
        range("stripped", 1, 20, OUTSIDE, StolenApples::new, (x, v) -> x.stripped(v));
        range("thefts", 1, 20, OUTSIDE, StolenApples::new, (x, v) -> x.thefts(v, 0));
        StolenApples x = six(20, 1);
        int[] nights = {NONE, NONE, NONE, 5, 4, 4, 3, 3, 3, 2, 2, 2, 2, 2, 2, 2, 2, 2, 2, 1};
        for (int bag = 1; bag <= 20; bag++) due("bag " + bag, x.stripped(bag), nights[bag - 1]);
        sentence("of each TREE as many thefts are wanted as make it bare");
        due("of nobody", new StolenApples().stripped(1), 0);
        due("of bare trees", six(0, 1).stripped(20), 0);
        due("of one apple", six(1, 1).stripped(20), 1);
        due("21 by 20", six(21, 20).stripped(20), 2);
        due("99 by 20", six(99, 20).stripped(20), 5);
        due("99 by 19", six(99, 20).stripped(19), NONE);
        due("own bags do not matter", six(20, 20).stripped(3), NONE);
    }

    private static void strippedThieves() {
        sentence("each by another NEIGHBOUR who MAY ROB it");
        StolenApples x = land(one(2, 1), one(0, 1));
        due("twice by one", x.stripped(1), NONE);
        due("once", x.stripped(2), 1);
        x.neighbour(2, 0, 1);
        due("by two", x.stripped(1), 1);
        after(x, "BA");
        x.neighbour(0, 2, 1);
        due("one of them has robbed him", x.stripped(1), NONE);
        due("the other one has not", x.stripped(2), 1);
        after(x, "A~");
        due("nobody may", x.stripped(20), NONE);
        due("alone, with apples", land(one(1, 1)).stripped(1), NONE);
        due("alone, bare", land(one(0, 1)).stripped(1), 0);
    }

    private static void strippedNights() {
        sentence("the fewest nights in which all can be, nobody going out twice in a night (many may be at one TREE)");
        StolenApples x = six(0, 1);
        x.neighbour(0, 20, 1);
        due("five at one tree", x.stripped(4), 1);
        due("six are too many", x.stripped(3), NONE);
        StolenApples y = land(one(0, 1), one(9, 1), one(9, 1), one(9, 1), one(9, 1), one(9, 1));
        after(y, "BCCDDEEFFB.BDCEDFEBFC.BECFDBECFD.BFCBDCEDFE.");
        for (int n = 1; n < 6; n++) y.neighbour(n, 9, 1);
        due("one must go to five", y.stripped(9), 5);
        for (int k = 0; k <= 5; k++) due("in " + k + " nights", y.thefts(9, k), k);
        y.neighbour(5, 0, 1);
        due("to four", y.stripped(9), 4);
    }

    private static void theftsNights() {
        sentence("THEFTS: how many of those that are wanted can be at the most in k nights (0 to 5)");
        range("thefts", 0, 5, OUTSIDE, StolenApples::new, (x, v) -> x.thefts(1, v));
        StolenApples x = six(99, 1);
        for (int k = 0; k <= 5; k++) due("all, in " + k, x.thefts(20, k), 6 * k);
        due("no more than can be", x.thefts(1, 5), 30);
        StolenApples y = six(1, 1);
        for (int k = 0; k <= 5; k++) due("no more than wanted, in " + k, y.thefts(1, k), k == 0 ? 0 : 6);
        due("of nobody", new StolenApples().thefts(1, 5), 0);
        StolenApples z = land(one(2, 1), one(0, 1));
        due("some, if not all", z.thefts(1, 5), 1);
        due("both L and k are wrong", z.thefts(21, 6), OUTSIDE);
    }

    private static void rounds() {
        sentence("ROUND: the most NEIGHBOURS (2 at least) in a round");
        due("of nobody", new StolenApples().round(), NONE);
        due("one is no round", land(one(9, 1)).round(), NONE);
        due("two", land(one(9, 1), one(9, 1)).round(), 2);
        due("one way only", land(one(9, 1), one(0, 1)).round(), NONE);
        for (int n = 3; n <= 6; n++) {
            StolenApples x = new StolenApples();
            for (int i = 6 - n; i < 6; i++) x.neighbour(i, 1, 20);
            due("all " + n, x.round(), n);
        }
        sentence("(nobody in it twice)");
        StolenApples x = after(land(one(9, 1), one(9, 1), one(9, 1)), "ACCA");
        due("two rounds with one in both", x.round(), 2);
        sentence("the last one the first");
        StolenApples y = after(land(one(9, 1), one(9, 1), one(9, 1)), "BACBAC");
        due("round one way", y.round(), 3);
        after(y, ".AB");
        due("not closed", y.round(), NONE);
        StolenApples z = six(9, 1);
        due("five of six", after(z, "A~").round(), 5);
        due("two of six", after(z, "B~C~D~").round(), 2);
        due("none of six", after(z, "E~").round(), NONE);
    }

    private static void chains() {
        sentence("CHAIN: the most in a row, each of whom MAY ROB the next one (nobody in it twice), from a NEIGHBOUR to another one");
        due("two are the fewest", land(one(0, 1), one(9, 1)).chain(0, 1), 2);
        due("none back", land(one(0, 1), one(9, 1)).chain(1, 0), NONE);
        for (int from = 0; from < 6; from++) {
            for (int to = 0; to < 6; to++) {
                due("of six", six(9, 1).chain(from, to), from == to ? UNKNOWN : 6);
            }
        }
        StolenApples x = after(land(one(9, 1), one(9, 1), one(9, 1)), "AC");
        due("not to the last one twice", x.chain(0, 1), 2);
        due("by the one between", x.chain(0, 2), 3);
        StolenApples y = after(six(9, 1), "B~");
        due("the first one's dog does not matter", y.chain(1, 0), 6);
        due("the last one's does", y.chain(0, 1), NONE);
        due("nobody comes by B", y.chain(0, 2), 5);
    }

    private static void exchanges() {
        sentence("the first takes what his BAG holds, or what there is, then the second of what is left; each goes home with the other's");
        int[] due = {0, 0, 0, 0, 0, 1, 2, 3, 3, 3};
        for (int apples = 0; apples < due.length; apples++) {
            StolenApples x = land(one(9, 4), one(9, 3), one(apples, 1));
            due("of " + apples, x.exchange(0, 1, 2), due[apples]);
        }
        StolenApples x = land(one(0, 20), one(0, 20), one(99, 1), one(39, 1), one(40, 1), one(41, 1));
        due("of 99", x.exchange(0, 1, 2), 20);
        due("of 39", x.exchange(0, 1, 3), 19);
        due("of 40", x.exchange(0, 1, 4), 20);
        due("of 41", x.exchange(1, 0, 5), 20);
        due("nothing is taken", x.state(2, 0), 99);
        sentence("two in one TREE (a third one's) on one night, whatever bars them");
        after(x, "ACC~");
        x.frost(0);
        due("robbed, out, a dog, frost", x.exchange(0, 1, 2), 20);
        due("a bare tree", x.exchange(2, 3, 0), 0);
        due("the first one's own", x.exchange(2, 3, 2), UNKNOWN);
        due("the second one's own", x.exchange(2, 3, 3), UNKNOWN);
    }

    private static void sightsLimit() {
        sentence("SIGHTS, 8 at most");
        StolenApples x = three();
        for (int i = 1; i <= 8; i++) due("sight", x.seen(i % 3, i), i);
        due("the ninth", x.seen(0, 0), FULL);
        due("eight", x.told(5), 8);
        due("eight go", x.forget(), 8);
        due("room again", x.seen(0, 0), 1);
        StolenApples y = six(9, 1);
        for (int i = 1; i <= 8; i++) y.seen(i % 6, 9);
        due("eight that are so", y.boots(0), 1);
        y.forget();
        for (int i = 1; i <= 7; i++) y.seen(i % 6, 9);
        y.seen(0, 8);
        due("the eighth counts", y.boots(0), 0);
    }

    private static void bootsOrder() {
        sentence("each who is there, the least first, robs one whom he can rob now (by what the others have left), or stays at home");
        StolenApples x = land(one(0, 3), one(0, 1), one(3, 1));
        due("A leaves nothing to B", x.boots(0), 3);
        due("A or B, never both", x.boots(1), 3);
        x.seen(2, 0);
        due("A took all", x.boots(2), 1);
        StolenApples y = land(one(0, 1), one(0, 3), one(3, 1));
        due("A leaves two to B", y.boots(0), 4);
        y.seen(2, 0);
        due("B takes just these", y.boots(0), 2);
        due("B was out in both", y.boots(2), 2);
        due("A in one", y.boots(1), 3);
        due("nobody: one row", new StolenApples().boots(0), 1);
        due("nobody: out in some", new StolenApples().boots(1), 0);
        due("nobody: out in all", new StolenApples().boots(2), 0);
        due("alone: one row", land(one(9, 1)).boots(0), 1);
        due("two: each or not", land(one(9, 1), one(9, 1)).boots(0), 4);
        due("six: all rows", six(99, 20).boots(0), 46656);
        due("six: by what is left", six(1, 1).boots(0), sixRows());
        sentence("by their own BAGS");
        StolenApples z = land(one(50, 7), one(50, 11), one(50, 13));
        z.seen(0, 50 - 11 - 13);
        due("both", z.boots(2), 6);
        z.forget();
        z.seen(0, 50 - 11);
        due("one", z.boots(2), 2);
        due("the other one not at A's", z.boots(0), 6);
    }

    /** Rows of six with one apple each: all maps of some to others, no two to one. */
    private static int sixRows() {
        return rowsFrom(0, 0);
    }

    private static int rowsFrom(int who, int taken) {
        if (who == 6) return 1;
        int rows = rowsFrom(who + 1, taken);
        for (int tree = 0; tree < 6; tree++) {
            if (tree != who && (taken & 1 << tree) == 0) rows += rowsFrom(who + 1, taken | 1 << tree);
        }
        return rows;
    }

    private static void bootsNow() {
        sentence("robs one whom he can rob now");
        StolenApples x = land(one(9, 1), one(9, 1));
        after(x, "AB");
        due("A was out, by the rows he is not", x.boots(1), 2);
        due("two rows", x.boots(0), 2);
        after(x, ".");
        due("A has robbed B", x.boots(1), 2);
        after(x, "$");
        due("in another year", x.boots(0), 4);
        after(x, "A~");
        due("a dog", x.boots(1), 1);
        after(x, "A*");
        due("a lamp", x.boots(1), 3);
        x.neighbour(1, 0, 1);
        due("bare", x.boots(1), 2);
        x.frost(0);
        due("frost", x.boots(1), 0);
        due("frost: all at home", x.boots(0), 1);
    }

    private static void bootsSights() {
        sentence("by which all SIGHTS are so: how many; who was out in some of them, as bits; in all");
        StolenApples x = land(one(0, 3), one(0, 1), one(3, 1));
        x.seen(2, 3);
        due("all at home", x.boots(0), 1);
        due("all at home: in some", x.boots(1), 0);
        due("all at home: in all", x.boots(2), 0);
        x.forget();
        x.seen(2, 2);
        due("B", x.boots(2), 2);
        x.seen(2, 2);
        due("the same twice", x.boots(0), 1);
        x.seen(2, 0);
        due("two that are not one", x.boots(0), 0);
        due("no rows: in some", x.boots(1), 0);
        due("no rows: in all", x.boots(2), 0);
        x.forget();
        x.seen(2, 1);
        due("what can not be left", x.boots(0), 0);
        x.forget();
        x.seen(2, 99);
        due("more than there are", x.boots(0), 0);
        x.forget();
        due("without sights", x.boots(0), 3);
    }

    private static void looks() {
        sentence("LOOK: the TREE (of which there is no SIGHT) to look at, so that, whatever is on it, fewest rows are left at the most: the least; how many");
        StolenApples x = land(one(0, 3), one(0, 1), one(3, 1));
        due("C's", x.look(0), 2);
        due("one row", x.look(1), 1);
        x.seen(2, 0);
        due("not C's again, the least", x.look(0), 0);
        x.seen(0, 0);
        due("B's is left", x.look(0), 1);
        due("one row still", x.look(1), 1);
        x.seen(1, 0);
        due("all are seen", x.look(0), NONE);
        due("all are seen: how many", x.look(1), NONE);
        x.forget();
        x.seen(2, 1);
        due("no rows", x.look(0), NONE);
        due("no rows: how many", x.look(1), NONE);
        due("nobody", new StolenApples().look(0), NONE);
        due("nobody: how many", new StolenApples().look(1), NONE);
        due("alone", land(one(9, 1)).look(0), 0);
        due("alone: how many", land(one(9, 1)).look(1), 1);
        StolenApples y = six(9, 9);
        due("of several the least", y.look(0), 0);
        StolenApples full = land(one(99, 1), one(99, 20));
        due("trees of 99, the least", full.look(0), 0);
        due("trees of 99: two of four rows", full.look(1), 2);
        StolenApples z = six(0, 1);
        z.neighbour(4, 9, 2);
        due("the only one that tells", z.look(0), 4);
        // Five may come with a bag of 1 each: of 9 apples 9, 8, 7, 6, 5, 4 are left by 1, 5, 10, 10, 5, 1 sets.
        due("ten of thirty-two", z.look(1), 10);
        due("thirty-two", z.boots(0), 32);
        z.seen(4, 6);
        due("ten are left", z.boots(0), 10);
        due("no other one tells", z.look(1), 10);
    }

    private static void duelSets() {
        sentence("take from the TREES of a set by turns, the first begins, from each TREE one of them once, as much as his BAG holds, or as there is");
        StolenApples x = land(one(99, 20), one(99, 1), one(99, 5), one(3, 5), one(0, 5), one(1, 5));
        due("no tree", x.duel(0, 1, 0, 0), 1000);
        due("no tree: which", x.duel(0, 1, 0, 1), NONE);
        due("a bag", x.duel(0, 1, 4, 0), 1020);
        due("what there is", x.duel(0, 1, 8, 0), 1003);
        due("a bare tree", x.duel(0, 1, 16, 0), 1000);
        due("a bare tree: which", x.duel(0, 1, 16, 1), 4);
        due("two trees", x.duel(0, 1, 3, 0), 1019);
        due("two trees, the small bag first", x.duel(1, 0, 3, 0), 981);
        due("three trees", x.duel(0, 1, 7, 0), 1039);
        due("three trees, the small bag first", x.duel(1, 0, 7, 0), 982);
        due("no tree, behind a duel", x.duel(0, 1, 0, 0), 1000);
        due("no tree, behind a duel: which", x.duel(0, 1, 0, 1), NONE);
        StolenApples y = six(99, 20);
        due("six trees, all even", y.duel(4, 5, 63, 0), 1000);
        due("five trees", y.duel(4, 5, 62, 0), 1020);
        due("of several the least", y.duel(4, 5, 62, 1), 1);
        due("the last tree alone", y.duel(4, 5, 32, 1), 5);
        due("nothing is taken", y.state(5, 0), 99);
        sentence("(whatever bars them; own TREES, too)");
        due("his own", x.duel(0, 1, 1, 0), 1020);
        due("his own: which", x.duel(0, 1, 1, 1), 0);
        after(x, "AB");
        after(x, "A~B~C~");
        x.frost(0);
        due("robbed, out, dogs, frost", x.duel(0, 1, 7, 0), 1039);
    }

    private static void duelTurns() {
        sentence("each wants most more than the other one: by how much the first has more in the end; the TREE that he takes first (of several the least)");
        StolenApples x = land(one(0, 5), one(0, 20), one(5, 1), one(20, 1));
        due("he takes what the other one would", x.duel(0, 1, 12, 1), 3);
        due("so it is even", x.duel(0, 1, 12, 0), 1000);
        due("the other one first", x.duel(1, 0, 12, 1), 3);
        due("the other one first: by how much", x.duel(1, 0, 12, 0), 1015);
        StolenApples y = land(one(0, 20), one(0, 20), one(7, 1), one(9, 1), one(9, 1), one(4, 1));
        due("nine, nine, seven, four", y.duel(0, 1, 60, 0), 1003);
        due("seven does as well, and is the least", y.duel(0, 1, 60, 1), 2);
        due("seven, nine, four", y.duel(0, 1, 44, 0), 1006);
        due("seven does not as well", y.duel(0, 1, 44, 1), 3);
        StolenApples z = land(one(99, 1), one(99, 20));
        due("less in the end", z.duel(0, 1, 3, 0), 981);
        due("either way: the least", z.duel(0, 1, 3, 1), 0);
        StolenApples w = six(99, 1);
        w.neighbour(0, 99, 20);
        due("the most that can be", w.duel(0, 1, 31, 0), 1058);
        due("the least that can be", w.duel(1, 0, 63, 0), 943);
    }

    private static void caughtTenths() {
        sentence("is caught with t tenths (0 to 10)");
        range("caught", 0, 10, LOST + OUTSIDE, Checks::three, (x, v) -> x.caught(0, 1, v, 0, 0));
        StolenApples x = land(one(0, 10), one(99, 1));
        long[][] means = {{10, 1}, {91, 10}, {41, 5}, {73, 10}, {32, 5}, {11, 2}, {23, 5}, {37, 10}, {14, 5}, {19, 10}, {1, 1}};
        for (int t = 0; t <= 10; t++) {
            due("mean, upper, " + t, x.caught(0, 1, t, 0, 0), means[t][0]);
            due("mean, lower, " + t, x.caught(0, 1, t, 0, 1), means[t][1]);
            due("always more, upper", x.caught(0, 1, t, 1, 0), 1);
            due("always more, lower", x.caught(0, 1, t, 1, 1), 1);
        }
        due("nothing is taken", x.state(1, 0), 99);
        due("nothing is had", x.state(0, 1), 0);
    }

    private static void caughtNine() {
        sentence("then he has 9 less, 0 at least");
        int[][] cases = {{1, 0}, {8, 0}, {9, 0}, {10, 1}, {20, 11}};
        for (int[] c : cases) {
            due("heap of " + c[0], land(one(0, c[0]), one(99, 1)).caught(0, 1, 10, 0, 0), c[1]);
        }
        due("what there is, not the bag", land(one(0, 20), one(9, 1)).caught(0, 1, 10, 0, 0), 0);
        sentence("what a NEIGHBOUR's HEAP is then in the mean; that it is more than now");
        int[][] bags = {{8, 4, 0}, {9, 5, 0}, {10, 6, 1}};
        for (int[] b : bags) {
            StolenApples x = after(land(one(0, 5), one(99, 1), one(99, 1)), "AB.");
            x.neighbour(0, 0, b[0]);
            due("five before, a bag of " + b[0], x.caught(0, 2, 10, 0, 0), b[1]);
            due("more than five", x.caught(0, 2, 10, 1, 0), b[2]);
        }
    }

    private static void caughtCan() {
        sentence("each who can rob a told one now does so");
        StolenApples x = land(one(9, 1), one(9, 1), one(9, 1));
        due("he can", x.caught(0, 1, 0, 0, 0), 1);
        after(x, "AB");
        due("3, 4", x.caught(0, 1, 0, 0, 0), LOST + STATE);
        due("4", x.caught(0, 2, 0, 0, 0), LOST + STATE);
        due("another one can", x.caught(2, 1, 0, 0, 0), 1);
        after(x, ".");
        due("3", x.caught(0, 1, 0, 0, 0), LOST + STATE);
        due("not 4", x.caught(0, 2, 0, 0, 0), 2);
        after(x, "C~");
        due("5", x.caught(0, 2, 0, 0, 0), LOST + STATE);
        after(x, "C*");
        due("not 5", x.caught(0, 2, 0, 0, 0), 2);
        x.neighbour(2, 0, 1);
        due("6", x.caught(0, 2, 0, 0, 0), LOST + STATE);
        x.neighbour(2, 1, 1);
        due("not 6", x.caught(0, 2, 0, 0, 0), 2);
        x.frost(0);
        due("7", x.caught(0, 2, 0, 0, 0), LOST + STATE);
        x.frost(1);
        due("not 7", x.caught(0, 2, 0, 0, 0), 2);
    }

    private static void moonsShared() {
        sentence("MOONS: m moons (0 to 60) are shared out to those who are there, as many to each");
        range("moons", 0, 60, OUTSIDE, Checks::three, (x, v) -> x.moons(0, v));
        StolenApples alone = land(one(9, 1));
        for (int m = 0; m <= 60; m++) due("alone", alone.moons(0, m), m);
        StolenApples x = six(9, 1);
        for (int n = 0; n < 6; n++) {
            due("none", x.moons(n, 0), 0);
            due("six", x.moons(n, 6), 1);
            due("sixty", x.moons(n, 60), 10);
        }
        x.move(3);
        for (int n = 0; n < 6; n++) due("sixty among five", x.moons(n, 60), n == 3 ? UNKNOWN : 12);
    }

    private static void moonsOver() {
        sentence("one more to as many as are over, of the smallest HEAPS first (of several the least)");
        StolenApples x = six(9, 1);
        for (int over = 0; over < 6; over++) {
            for (int n = 0; n < 6; n++) due(over + " over, " + n, x.moons(n, 12 + over), n < over ? 3 : 2);
        }
        x.neighbour(0, 9, 5);
        x.neighbour(1, 9, 3);
        x.neighbour(3, 9, 3);
        after(x, "ABBADC");
        // Heaps 5, 3, 0, 3, 0, 0: C, E, F, then B, D, then A.
        int[] place = {5, 3, 0, 4, 1, 2};
        for (int over = 0; over < 6; over++) {
            for (int n = 0; n < 6; n++) due("by heaps, " + over + " over, " + n, x.moons(n, over), place[n] < over ? 1 : 0);
        }
    }

    private static void yearLimits() {
        sentence("A YEAR by a seed (0 to 9999)");
        StolenApples land = six(9, 1);
        range("year's seed", 0, 9999, OUTSIDE, StolenApples::new, (x, v) -> x.year(v, 1, 0));
        sentence("of m ACTS (1 to 99)");
        range("year's acts", 1, 99, OUTSIDE, Checks::three, (x, v) -> x.year(0, v, 0));
        due("both wrong", land.year(10000, 100, 3), OUTSIDE);
        due("nobody: heaps", new StolenApples().year(9999, 99, 0), 0);
        due("nobody: apples", new StolenApples().year(9999, 99, 1), 0);
        due("nobody: how often", new StolenApples().year(9999, 99, 2), 0);
    }

    private static void yearDraws() {
        sentence("x becomes (75 x and 74) left over by 65537");
        StolenApples x = six(9, 2);
        // 75 * 9999 + 74 = 749999, left over 29092: else one robs, A (3636 by 6) E (454 by 6).
        due("the greatest seed", x.year(9999, 1, 2), 1);
        due("the greatest seed: heaps", x.year(9999, 1, 0), 2);
        due("the greatest seed: apples", x.year(9999, 1, 1), 52);
        // 75 * 0 + 74 = 74: D's dog; 75 * 74 + 74 = 5624: the night ends; 421874, left over 28652: F robs D.
        due("the least seed", x.year(0, 1, 2), 0);
        due("the least seed: D's dog is up", x.year(0, 3, 2), 0);
        after(x, "D~");
        due("the least seed: D's dog sleeps", x.year(0, 3, 2), 1);
        after(x, "D~");
        // 75 * 872 + 74 = 65474 is not left over; 75 * 873 + 74 = 65549 is 12: B robs A.
        due("below 65537", x.year(872, 1, 2), 0);
        due("above 65537", x.year(873, 1, 2), 1);
        after(x, "A~");
        due("A's dog is up", x.year(873, 1, 2), 0);
    }

    /** The year once more, act by act, by what is written and done. */
    private static int[] yearByNights(StolenApples x, int seed, int acts) {
        long draw = seed;
        int often = 0;
        for (int i = 0; i < acts; i++) {
            draw = (75 * draw + 74) % 65537;
            char who = (char) ('A' + draw / 8 % 6);
            char whom = (char) ('A' + draw / 64 % 6);
            int kind = (int) (draw % 8);
            String text = kind == 0 ? "." : who + (kind == 1 ? "*" : kind == 2 ? "~" : kind == 3 ? "!" : "" + whom);
            if (perform(x, text) == 1 && kind > 3) often++;
        }
        int heaps = 0;
        int apples = 0;
        for (int n = 0; n < 6; n++) {
            heaps += Math.max(0, x.state(n, 1));
            apples += Math.max(0, x.state(n, 0));
        }
        return new int[] {heaps, apples, often};
    }

    private static StolenApples orchard(int seed) {
        StolenApples x = new StolenApples();
        for (int n = 0; n < 6; n++) {
            if (seed % 7 != n) x.neighbour(n, (seed * 31 + n * 17) % 100, 1 + (seed + n * 7) % 20);
        }
        x.frost(seed % 31);
        perform(x, seed % 2 == 0 ? "AB" : "EF");
        return x;
    }

    private static void yearActs() {
        sentence("by x left over by 8: 0 the night ends, 1 a LAMP, 2 a DOG, 3 one is caught, else one robs");
        for (int seed = 0; seed <= 9999; seed += 101) {
            int acts = 1 + seed % 99;
            int[] want = yearByNights(orchard(seed), seed, acts);
            for (int what = 0; what < 3; what++) {
                due("year(" + seed + ", " + acts + ", " + what + ")", orchard(seed).year(seed, acts, what), want[what]);
            }
        }
        int[] most = yearByNights(orchard(77), 77, 99);
        for (int what = 0; what < 3; what++) due("ninety-nine acts", orchard(77).year(77, 99, what), most[what]);
    }

    private static void yearLeavesAll() {
        sentence("Nothing is DONE in fact");
        StolenApples x = orchard(30);
        StolenApples y = orchard(30);
        write(x, "A*");
        write(y, "A*");
        for (int seed = 0; seed < 30; seed++) x.year(seed, 99, seed % 3);
        for (int n = 0; n < 6; n++) {
            for (int what = 0; what < 4; what++) due("as before", x.state(n, what), y.state(n, what));
        }
        for (int what = 0; what < 6; what++) due("as before", x.told(what), y.told(what));
        due("the pad is as before", x.done(), 1);
    }
}
