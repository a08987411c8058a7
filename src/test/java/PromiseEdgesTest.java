/** The sections 'Promise 1' to 'Promise 30': each sentence that names a boundary case, in its order. */
public final class PromiseEdgesTest extends Checks {
    public static void main(String[] args) {
        newObject();
        neighbour();
        neighbourAnew();
        move();
        moveLeavesNothing();
        frost();
        say();
        wipe();
        fault();
        judge();
        done();
        state();
        behind();
        trees();
        may();
        safe();
        stripped();
        thefts();
        round();
        chain();
        exchange();
        seen();
        forget();
        boots();
        look();
        duel();
        caught();
        moons();
        year();
        image();
        imageKeepsAll();
        restore();
        told();
        lastCalls();
        end();
    }

    private static void newObject() {
        sentence("1: Nobody is there");
        StolenApples x = new StolenApples();
        for (int n = 0; n < 6; n++) {
            due("state", x.state(n, 0), UNKNOWN);
            due("may", x.may(n), UNKNOWN);
            due("move", x.move(n), UNKNOWN);
            due("bag", x.told(10 + n), OUTSIDE);
            due("behind", x.behind(n, 0), UNKNOWN);
            due("moons", x.moons(n, 1), UNKNOWN);
            due("seen", x.seen(n, 0), UNKNOWN);
        }
        due("there", x.told(1), 0);
        due("safe", x.safe(), 0);
        due("bare", x.trees(0), 0);
        due("shame", x.trees(1), 0);
        due("honour", x.trees(2), NONE);
        due("round", x.round(), NONE);
        due("duel of no trees", x.duel(0, 1, 0, 0), UNKNOWN);
        StolenApples other = six(9, 9);
        due("one object is not another one", x.told(1), 0);
        due("nor the other one this one", other.told(1), 63);
    }

    private static void neighbour() {
        sentence("2: A NEIGHBOUR is there (or just APPLES, his BAG are anew): how many are");
        StolenApples x = new StolenApples();
        int[] order = {5, 0, 3, 1, 4, 2};
        for (int i = 0; i < 6; i++) due("one more", x.neighbour(order[i], i, i + 1), i + 1);
        for (int i = 0; i < 6; i++) {
            due("apples", x.state(order[i], 0), i);
            due("bag", x.told(10 + order[i]), i + 1);
        }
        sentence("2: UNKNOWN; OUTSIDE");
        for (int n : NOBODY) due("neighbour " + n, x.neighbour(n, 0, 1), UNKNOWN);
        due("both numbers wrong", x.neighbour(0, 100, 21), OUTSIDE);
        due("apples wrong, bag not", x.neighbour(0, -1, 1), OUTSIDE);
        due("bag wrong, apples not", x.neighbour(0, 0, 0), OUTSIDE);
        due("apples as before", x.state(0, 0), 1);
        due("bag as before", x.told(10), 2);
        StolenApples y = new StolenApples();
        y.neighbour(4, 100, 1);
        y.neighbour(4, 0, 21);
        due("a refused one is not there", y.told(1), 0);
    }

    private static void neighbourAnew() {
        sentence("2: (or just APPLES, his BAG are anew)");
        StolenApples x = after(land(one(9, 1), one(9, 1), one(9, 1)), "B~B*ABBC");
        x.seen(1, 3);
        due("how many are", x.neighbour(1, 30, 20), 3);
        due("apples", x.state(1, 0), 30);
        due("bag", x.told(11), 20);
        due("heap as before", x.state(1, 1), 1);
        due("out as before", x.state(1, 2), 1);
        due("robbed as before", x.state(1, 3), 4);
        due("dog as before", x.told(3), 2);
        due("lamp as before", x.told(4), 2);
        due("sights as before", x.told(5), 1);
        due("who has robbed him, as before", x.state(0, 3), 2);
        due("his shame, as before", x.trees(1), 1);
        due("caught by him still", whyOf(x, "A!"), NONE);
        due("he is caught still", whyOf(x, "B!"), NONE);
        due("the pad is as before", x.wipe(), 2);
    }

    private static void move() {
        sentence("3: A NEIGHBOUR moves (nothing is left of him; nobody has ROBBED him): how many are there");
        StolenApples x = six(9, 1);
        int[] order = {2, 5, 0, 4, 1, 3};
        for (int i = 0; i < 6; i++) {
            due("one less", x.move(order[i]), 5 - i);
            due("UNKNOWN: he was not", x.move(order[i]), UNKNOWN);
        }
        due("nobody is left", x.told(1), 0);
        for (int n : NOBODY) due("move " + n, x.move(n), UNKNOWN);
    }

    private static void moveLeavesNothing() {
        sentence("3: (nothing is left of him; nobody has ROBBED him)");
        StolenApples x = after(six(20, 5), "A~A*ABBACA.CB");
        x.move(0);
        due("his dog", x.told(3), 0);
        due("his lamp", x.told(4), 0);
        due("his bag", x.told(10), OUTSIDE);
        due("B has not robbed him", x.state(1, 3), 0);
        due("C has robbed B alone", x.state(2, 3), 2);
        due("B's heap stays", x.state(1, 1), 5);
        due("heaps of a year without acts that can be", x.year(0, 1, 0), 15);
        due("apples of those who are there", x.year(0, 1, 1), 90);
        x.neighbour(0, 20, 5);
        due("heap", x.state(0, 1), 0);
        due("out", x.state(0, 2), 0);
        due("robbed", x.state(0, 3), 0);
        due("his dog sleeps", x.told(3), 0);
        due("his lamp does not burn", x.told(4), 0);
        due("B can rob him again", x.may(1) & 1, 1);
        due("he is in shame", x.trees(1) & 1, 1);
        StolenApples z = after(six(20, 5), "FEAF");
        z.move(5);
        due("all are in shame again, for F has moved", z.trees(1), 31);
        due("nobody has robbed F", z.state(0, 3), 0);
        z.neighbour(5, 20, 5);
        due("F has robbed nobody", z.state(5, 3), 0);
        StolenApples y = after(six(20, 5), "AB");
        y.move(0);
        due("B is in shame, for his robber has moved", y.trees(1), 62);
        y.neighbour(0, 20, 5);
        due("who comes can not be caught", whyOf(y, "A!"), 8);
        due("who comes was not out", y.may(0), 62);
    }

    private static void frost() {
        sentence("4: FROST: which it was. OUTSIDE");
        StolenApples x = new StolenApples();
        due("first", x.frost(0), 10);
        for (int f = 1; f <= 30; f++) due("it was", x.frost(f), f - 1);
        due("above", x.frost(31), OUTSIDE);
        due("below", x.frost(-1), OUTSIDE);
        due("it was thirty still", x.frost(30), 30);
        due("the same again", x.frost(30), 30);
    }

    private static void say() {
        sentence("5: A sign more: how many. OUTSIDE; FULL");
        StolenApples x = new StolenApples();
        due("32", x.say(32), OUTSIDE);
        due("33", x.say(33), 1);
        due("126", x.say(126), 2);
        due("127", x.say(127), OUTSIDE);
        due("0", x.say(0), OUTSIDE);
        due("two", x.told(0), 2);
        for (int i = 3; i <= 60; i++) x.say('$');
        due("full", x.say('$'), FULL);
        due("full again", x.say('A'), FULL);
        due("outside, though full", x.say(32), OUTSIDE);
        due("outside, though full", x.say(127), OUTSIDE);
        due("sixty", x.wipe(), 60);
        StolenApples y = new StolenApples();
        for (int i = 0; i < 60; i++) y.say('$');
        y.say('A');
        due("the refused sign is not there", y.fault(), NONE);
        due("nor in what is done", y.done(), 60);
    }

    private static void wipe() {
        sentence("6: Signs go: how many there were");
        StolenApples x = six(9, 1);
        due("none", x.wipe(), 0);
        for (int n = 1; n <= 60; n += 59) {
            for (int i = 0; i < n; i++) x.say('A');
            due(n + " signs", x.wipe(), n);
            due("none are left", x.wipe(), 0);
            due("no fault is left", x.fault(), NONE);
        }
        write(x, "AB");
        x.wipe();
        due("nothing of them is done", x.done(), 0);
        due("nobody was robbed", x.trees(1), 63);
    }

    private static void fault() {
        sentence("7: THE FAULT; NONE");
        due("empty", faultOf(""), NONE);
        due("at 0", faultOf("!"), 0);
        due("at 59", faultOf("$".repeat(59) + "!"), 59);
        due("at 60, wanting one", faultOf("$".repeat(59) + "A"), 60);
        due("sixty without", faultOf("$".repeat(60)), NONE);
        StolenApples x = new StolenApples();
        write(x, "AB");
        due("a fault is of signs, not of who is there", x.fault(), NONE);
    }

    private static void judge() {
        sentence("8: the ACT (what = 0), why (1); NONE. OUTSIDE; NO: there is a FAULT");
        range("judge", 0, 1, OUTSIDE, Checks::three, (x, v) -> x.judge(v));
        StolenApples x = three();
        write(x, "A");
        due("fault: which", x.judge(0), NO);
        due("fault: why", x.judge(1), NO);
        write(x, "AAx");
        due("a fault behind an act that can not be", x.judge(0), NO);
        write(x, "x");
        due("outside, though a fault", x.judge(-1), OUTSIDE);
        write(x, "");
        due("empty: which", x.judge(0), NONE);
        due("empty: why", x.judge(1), NONE);
        write(x, "ABCA");
        due("all can be: which", x.judge(0), NONE);
        due("all can be: why", x.judge(1), NONE);
        due("and again", x.judge(0), NONE);
        due("nothing is done", x.state(0, 1), 0);
    }

    private static void done() {
        sentence("9: NIGHTS on the PAD are DONE (it is empty then): ACTS");
        StolenApples x = three();
        due("none", x.done(), 0);
        due("one of one sign", perform(x, "."), 1);
        due("empty then", x.told(0), 0);
        due("one of two signs", perform(x, "AB"), 1);
        due("empty then", x.told(0), 0);
        due("done once", x.done(), 0);
        due("the heap", x.state(0, 1), 4);
        due("thirty", perform(x, "A*".repeat(30)), 30);
        due("sixty", perform(x, "$".repeat(60)), 60);
        sentence("9: NO: there is a FAULT, or an ACT that can not be");
        StolenApples y = three();
        write(y, "ABC");
        due("a fault at the end", y.done(), NO);
        due("nothing was done", y.state(0, 1), 0);
        due("the pad is as before", y.told(0), 3);
        y.say('A');
        due("no fault any more", y.done(), 2);
        write(y, "B*B~.CC");
        due("the last can not be", y.done(), NO);
        due("no lamp", y.told(4), 0);
        due("no dog", y.told(3), 0);
        due("no night", y.told(2), 10);
        due("who was out, was", y.state(0, 2), 1);
        due("the pad is as before", y.told(0), 7);
        due("nor the second time", y.done(), NO);
    }

    private static void state() {
        sentence("10: APPLES (what = 0), his HEAP (1), whether he was OUT (2: 1, 0), whom he has ROBBED (3: bits). UNKNOWN; OUTSIDE");
        range("state", 0, 3, OUTSIDE, Checks::three, (x, v) -> x.state(0, v));
        StolenApples x = after(six(99, 20), "FAAF");
        int[] want = {79, 20, 1, 32};
        for (int what = 0; what < 4; what++) due("of A", x.state(0, what), want[what]);
        int[] last = {79, 20, 1, 1};
        for (int what = 0; what < 4; what++) due("of F", x.state(5, what), last[what]);
        int[] none = {99, 0, 0, 0};
        for (int what = 0; what < 4; what++) due("of B", x.state(1, what), none[what]);
        for (int n : NOBODY) due("state of " + n, x.state(n, 0), UNKNOWN);
        x.move(1);
        for (int what = 0; what < 4; what++) due("of one who has moved", x.state(1, what), UNKNOWN);
    }

    private static void behind() {
        sentence("11: BEHIND, likewise. UNKNOWN; OUTSIDE; NO, as of done()");
        range("behind", 0, 3, OUTSIDE, Checks::three, (x, v) -> x.behind(0, v));
        StolenApples x = six(99, 20);
        for (int n = 0; n < 6; n++) {
            for (int what = 0; what < 4; what++) due("behind nothing", x.behind(n, what), x.state(n, what));
        }
        write(x, "ABA!A!.$BA");
        int[] want = {79, 2, 0, 0};
        for (int what = 0; what < 4; what++) due("of A", x.behind(0, what), want[what]);
        int[] other = {97, 20, 1, 1};
        for (int what = 0; what < 4; what++) due("of B", x.behind(1, what), other[what]);
        write(x, "A");
        due("a fault", x.behind(0, 0), NO);
        write(x, "ABAB");
        due("an act that can not be", x.behind(5, 3), NO);
        write(x, "ABABx");
        due("both", x.behind(5, 3), NO);
    }

    private static void trees() {
        sentence("12: BARE (what = 0), SHAME (1), as bits, HONOUR (2; NONE: nobody is there). OUTSIDE");
        range("trees", 0, 2, OUTSIDE, Checks::three, (x, v) -> x.trees(v));
        StolenApples x = six(0, 1);
        due("all bare", x.trees(0), 63);
        for (int n = 0; n < 5; n++) x.move(n);
        due("one is there: honour", x.trees(2), 5);
        x.move(5);
        due("nobody is there: honour", x.trees(2), NONE);
        due("nobody is there: bare", x.trees(0), 0);
        due("nobody is there: shame", x.trees(1), 0);
        due("outside, though nobody is there", x.trees(3), OUTSIDE);
        StolenApples y = after(six(99, 1), "ABBCCDDEEFFA");
        due("no shame", y.trees(1), 0);
        due("none bare", y.trees(0), 0);
    }

    private static void may() {
        sentence("13: MAY, as bits. UNKNOWN");
        StolenApples x = six(1, 1);
        for (int n = 0; n < 6; n++) due("all but himself", x.may(n), 63 & ~(1 << n));
        for (int n : NOBODY) due("may of " + n, x.may(n), UNKNOWN);
        x.move(4);
        due("who has moved", x.may(4), UNKNOWN);
        due("nor can he be robbed", x.may(5), 15);
        due("alone: nobody", land(one(9, 9)).may(0), 0);
    }

    private static void safe() {
        sentence("14: SAFE, as bits");
        due("nobody is there", new StolenApples().safe(), 0);
        due("all can be robbed", six(1, 1).safe(), 0);
        due("all are bare", six(0, 1).safe(), 63);
        StolenApples x = after(six(9, 1), "A~C~F~F*");
        due("dogs without lamps", x.safe(), 5);
        StolenApples y = land(one(99, 1), one(99, 1), one(99, 1));
        due("one of two has robbed B", after(y, "AB").safe(), 0);
        due("both have", after(y, "CB").safe(), 2);
    }

    private static void stripped() {
        sentence("15: STRIPPED: nights; NONE. OUTSIDE: L");
        StolenApples x = six(5, 20);
        due("none but five", x.stripped(1), 5);
        due("one", x.stripped(20), 1);
        due("0", x.stripped(0), OUTSIDE);
        due("21", x.stripped(21), OUTSIDE);
        due("least int", x.stripped(Integer.MIN_VALUE), OUTSIDE);
        due("greatest int", x.stripped(Integer.MAX_VALUE), OUTSIDE);
        x.neighbour(3, 6, 20);
        due("NONE", x.stripped(1), NONE);
        due("nothing is taken", x.state(3, 0), 6);
    }

    private static void thefts() {
        sentence("16: STRIPPED: thefts. OUTSIDE: L, k");
        StolenApples x = six(5, 20);
        due("no night", x.thefts(1, 0), 0);
        due("five nights", x.thefts(1, 5), 30);
        due("L 0", x.thefts(0, 0), OUTSIDE);
        due("L 21", x.thefts(21, 0), OUTSIDE);
        due("k -1", x.thefts(1, -1), OUTSIDE);
        due("k 6", x.thefts(20, 6), OUTSIDE);
        for (int v : FAR) {
            due("L " + v, x.thefts(v, 5), OUTSIDE);
            due("k " + v, x.thefts(20, v), OUTSIDE);
        }
    }

    private static void round() {
        sentence("17: ROUND; NONE");
        due("nobody", new StolenApples().round(), NONE);
        due("one", land(one(1, 1)).round(), NONE);
        due("all bare", six(0, 1).round(), NONE);
        due("all but one bare", land(one(1, 1), one(0, 1), one(0, 1)).round(), NONE);
        due("six", six(1, 1).round(), 6);
    }

    private static void chain() {
        sentence("18: CHAIN; NONE. UNKNOWN: both, also one");
        StolenApples x = three();
        due("both are one", x.chain(1, 1), UNKNOWN);
        due("the first is not there", x.chain(3, 1), UNKNOWN);
        due("the other one is not there", x.chain(1, 3), UNKNOWN);
        due("neither is there", x.chain(3, 4), UNKNOWN);
        due("neither, and one", x.chain(3, 3), UNKNOWN);
        due("NONE, to a bare tree", x.chain(0, 2), NONE);
        due("from a bare tree", x.chain(2, 0), 3);
    }

    private static void exchange() {
        sentence("19: UNKNOWN: all three, also of the two one");
        StolenApples x = three();
        due("as it can be", x.exchange(2, 1, 0), 7);
        due("the first", x.exchange(3, 1, 0), UNKNOWN);
        due("the second", x.exchange(2, 3, 0), UNKNOWN);
        due("the tree", x.exchange(2, 1, 3), UNKNOWN);
        due("the two are one", x.exchange(1, 1, 0), UNKNOWN);
        due("the tree is the first one's", x.exchange(2, 1, 2), UNKNOWN);
        due("the tree is the second one's", x.exchange(2, 1, 1), UNKNOWN);
        due("all are one", x.exchange(1, 1, 1), UNKNOWN);
        due("nobody at all", x.exchange(6, 6, 6), UNKNOWN);
        due("only two are there", land(one(9, 1), one(9, 1)).exchange(0, 1, 2), UNKNOWN);
    }

    private static void seen() {
        sentence("20: A SIGHT more: how many. UNKNOWN; OUTSIDE; FULL");
        StolenApples x = three();
        due("of no apples", x.seen(0, 0), 1);
        due("of 99", x.seen(0, 99), 2);
        due("of -1", x.seen(0, -1), OUTSIDE);
        due("of 100", x.seen(0, 100), OUTSIDE);
        due("of one who is not there", x.seen(3, 0), UNKNOWN);
        due("two", x.told(5), 2);
        for (int i = 3; i <= 8; i++) due("more", x.seen(1, 5), i);
        due("full", x.seen(1, 5), FULL);
        due("outside, though full", x.seen(1, 100), OUTSIDE);
        due("unknown, though full", x.seen(6, 5), UNKNOWN);
        StolenApples y = three();
        for (int i = 0; i < 8; i++) y.seen(1, 5);
        y.seen(1, 4);
        due("the refused one does not count", y.boots(0) > 0 ? 1 : 0, 1);
        due("nor is its tree seen", y.look(0) == 1 ? 1 : 0, 0);
        due("apples stay what they are", y.state(1, 0), 5);
    }

    private static void forget() {
        sentence("21: SIGHTS go: how many there were");
        StolenApples x = three();
        due("none", x.forget(), 0);
        x.seen(0, 1);
        due("one", x.forget(), 1);
        for (int i = 0; i < 8; i++) x.seen(2, 99);
        due("no rows", x.boots(0), 0);
        due("eight", x.forget(), 8);
        due("none are left", x.forget(), 0);
        due("all rows again", x.boots(0), 10);
        due("all trees are to be seen", x.look(0), 1);
    }

    private static void boots() {
        sentence("22: how many (what = 0), in some (1), in all (2; 0: there are no rows). OUTSIDE");
        range("boots", 0, 2, OUTSIDE, Checks::three, (x, v) -> x.boots(v));
        StolenApples x = three();
        x.seen(2, 1);
        due("no rows", x.boots(0), 0);
        due("no rows: in some", x.boots(1), 0);
        due("no rows: in all", x.boots(2), 0);
        due("no rows, outside", x.boots(3), OUTSIDE);
    }

    private static void look() {
        sentence("23: the TREE (what = 0), how many (1); NONE: all are seen, or there are no rows. OUTSIDE");
        range("look", 0, 1, OUTSIDE, Checks::three, (x, v) -> x.look(v));
        StolenApples x = six(9, 1);
        for (int n = 0; n < 5; n++) x.seen(n, 9);
        due("the last one", x.look(0), 5);
        due("all but F come to F's, or not", x.look(1), 10);
        x.seen(5, 9);
        due("all are seen", x.look(0), NONE);
        due("all are seen: how many", x.look(1), NONE);
        due("all are seen: outside", x.look(2), OUTSIDE);
        StolenApples y = six(9, 1);
        y.seen(0, 10);
        due("no rows", y.look(0), NONE);
        due("no rows: how many", y.look(1), NONE);
        due("no rows: outside", y.look(-1), OUTSIDE);
    }

    private static void duel() {
        sentence("24: by how much and 1000 (what = 0), the TREE (1; NONE: there is none)");
        range("duel", 0, 1, OUTSIDE, Checks::three, (x, v) -> x.duel(0, 1, 3, v));
        StolenApples x = three();
        due("none", x.duel(0, 1, 0, 1), NONE);
        due("none: by how much", x.duel(0, 1, 0, 0), 1000);
        due("none: outside", x.duel(0, 1, 0, 2), OUTSIDE);
        sentence("24: UNKNOWN: both, also one, or a TREE of the set is nobody's");
        due("both are one", x.duel(1, 1, 1, 0), UNKNOWN);
        due("both are one, no tree", x.duel(1, 1, 0, 0), UNKNOWN);
        due("the first", x.duel(3, 1, 1, 0), UNKNOWN);
        due("the second", x.duel(1, 3, 1, 0), UNKNOWN);
        for (int bit = 0; bit < 32; bit++) {
            due("tree " + bit, x.duel(0, 1, 1 << bit, 1), bit < 3 ? bit : UNKNOWN);
            due("tree " + bit + " and A's", x.duel(0, 1, 1 << bit | 1, 1) >= 0 ? 0 : UNKNOWN, bit < 3 ? 0 : UNKNOWN);
        }
        for (int set : new int[] {-1, -8, Integer.MIN_VALUE, Integer.MAX_VALUE, 8, 64, 127}) {
            due("set " + set, x.duel(0, 1, set, 0), UNKNOWN);
        }
        due("all who are there", x.duel(0, 1, 7, 1) >= 0 ? 1 : 0, 1);
        due("64 with six", six(9, 1).duel(0, 1, 64, 0), UNKNOWN);
    }

    private static void caught() {
        sentence("25: UNKNOWN: both, also one; OUTSIDE; STATE: he can not");
        range("what", 0, 1, LOST + OUTSIDE, Checks::three, (x, v) -> x.caught(0, 1, 5, v, 0));
        range("part", 0, 1, LOST + OUTSIDE, Checks::three, (x, v) -> x.caught(0, 1, 5, 0, v));
        StolenApples x = three();
        due("both are one", x.caught(1, 1, 5, 0, 0), LOST + UNKNOWN);
        due("the first", x.caught(3, 1, 5, 0, 0), LOST + UNKNOWN);
        due("the other one", x.caught(1, 3, 5, 0, 0), LOST + UNKNOWN);
        due("a bare tree", x.caught(1, 2, 5, 0, 0), LOST + STATE);
        due("from a bare tree's", x.caught(2, 1, 5, 0, 0), 3);
    }

    private static void moons() {
        sentence("26: MOONS. UNKNOWN; OUTSIDE");
        StolenApples x = three();
        due("none", x.moons(2, 0), 0);
        due("sixty", x.moons(2, 60), 20);
        due("-1", x.moons(2, -1), OUTSIDE);
        due("61", x.moons(2, 61), OUTSIDE);
        due("not there", x.moons(3, 0), UNKNOWN);
        for (int m = 0; m <= 60; m++) {
            due("together", x.moons(0, m) + x.moons(1, m) + x.moons(2, m), m);
        }
    }

    private static void year() {
        sentence("27: HEAPS (what = 0), APPLES (1), how often (2). OUTSIDE");
        range("year", 0, 2, OUTSIDE, Checks::three, (x, v) -> x.year(0, 1, v));
        StolenApples x = after(six(99, 20), "AB.BA");
        due("heaps before", x.year(0, 1, 0), 40);
        due("apples before", x.year(0, 1, 1), 594 - 40);
        due("robbed before does not count", x.year(0, 1, 2), 0);
        x.frost(0);
        for (int seed = 0; seed < 50; seed++) due("frost: nobody robs", x.year(seed, 99, 2), 0);
    }

    private static void image() {
        sentence("28: All but the PAD is kept in an IMAGE (0, 1): 1. OUTSIDE");
        range("image", 0, 1, OUTSIDE, Checks::three, (x, v) -> x.image(v));
        StolenApples x = three();
        due("kept", x.image(0), 1);
        x.neighbour(0, 1, 1);
        due("kept anew", x.image(0), 1);
        x.neighbour(0, 2, 2);
        due("the other one", x.image(1), 1);
        x.move(0);
        due("restored", x.restore(0), 1);
        due("the newest of 0", x.state(0, 0), 1);
        due("restored", x.restore(1), 1);
        due("1 is not 0", x.state(0, 0), 2);
        StolenApples y = three();
        y.image(2);
        y.image(-1);
        due("a refused one is not kept", y.restore(0), STATE);
        due("nor in the other one", y.restore(1), STATE);
    }

    private static void imageKeepsAll() {
        sentence("28: All but the PAD is kept");
        StolenApples x = after(six(50, 12), "A~B*AB.BC");
        x.frost(4);
        x.seen(3, 50);
        x.image(1);
        write(x, "AAA");
        x.neighbour(0, 1, 1);
        x.frost(30);
        perform(x, "A~B*F~F*$FE");
        x.forget();
        x.seen(2, 3);
        x.seen(2, 4);
        x.move(1);
        x.move(2);
        write(x, "C*..A");
        due("restored", x.restore(1), 1);
        due("the pad is not", x.told(0), 5);
        due("the pad's fault is not", x.fault(), 5);
        due("there", x.told(1), 63);
        due("frost", x.told(2), 4);
        due("dogs", x.told(3), 1);
        due("lamps", x.told(4), 2);
        due("sights", x.told(5), 1);
        due("bag", x.told(10), 12);
        int[][] want = {{50, 12, 0, 2}, {38, 12, 1, 4}, {38, 0, 0, 0}, {50, 0, 0, 0}, {50, 0, 0, 0}, {50, 0, 0, 0}};
        for (int n = 0; n < 6; n++) {
            for (int what = 0; what < 4; what++) due("of " + n, x.state(n, what), want[n][what]);
        }
        due("D's tree is seen, and was not robbed", x.boots(0), landWithSight().boots(0));
        due("whom B robbed last", perform(x, "B!"), 1);
        due("C has them again", x.state(2, 0), 47);
    }

    private static StolenApples landWithSight() {
        StolenApples x = after(six(50, 12), "A~B*AB.BC");
        x.seen(3, 50);
        return x;
    }

    private static void restore() {
        sentence("29: It is as it was when it was kept: 1. OUTSIDE; STATE: it was not");
        StolenApples x = three();
        due("0 was not kept", x.restore(0), STATE);
        due("1 was not kept", x.restore(1), STATE);
        for (int v : FAR) due("outside, though not kept", x.restore(v), OUTSIDE);
        due("2", x.restore(2), OUTSIDE);
        due("-1", x.restore(-1), OUTSIDE);
        x.image(1);
        due("0 was not kept still", x.restore(0), STATE);
        due("1 was", x.restore(1), 1);
        for (int i = 0; i < 3; i++) {
            perform(x, "AB");
            x.neighbour(5, 1, 1);
            due("again and again", x.restore(1), 1);
            due("heap", x.state(0, 1), 0);
            due("there", x.told(1), 7);
        }
        range("restore", 0, 1, OUTSIDE, PromiseEdgesTest::keptTwice, (y, v) -> y.restore(v));
        StolenApples y = new StolenApples();
        y.image(0);
        y.neighbour(3, 1, 1);
        y.frost(0);
        due("of a land of nobody", y.restore(0), 1);
        due("nobody", y.told(1), 0);
        due("frost", y.told(2), 10);
        StolenApples z = three();
        write(z, "$".repeat(60));
        z.image(0);
        z.restore(0);
        due("a full pad stays full", z.say('$'), FULL);
    }

    private static StolenApples keptTwice() {
        StolenApples x = three();
        x.image(0);
        x.image(1);
        return x;
    }

    private static void told() {
        sentence("30: 0 signs, 1 NEIGHBOURS (bits), 2 FROST, 3 DOGS that are up (bits), 4 LAMPS that burn (bits), 5 SIGHTS");
        range("told", 0, 5, OUTSIDE, Checks::three, (x, v) -> x.told(v));
        StolenApples x = after(six(9, 20), "A~F~B*E*");
        x.frost(30);
        write(x, "$".repeat(60));
        for (int i = 0; i < 8; i++) x.seen(0, 9);
        int[] want = {60, 63, 30, 33, 18, 8};
        for (int what = 0; what < 6; what++) due("told " + what, x.told(what), want[what]);
        sentence("30: 10 and a NEIGHBOUR who is there: his BAG. OUTSIDE");
        StolenApples y = land(one(9, 1), one(9, 20), one(9, 3), one(9, 4), one(9, 5), one(9, 6));
        int[] bags = {1, 20, 3, 4, 5, 6};
        for (int n = 0; n < 6; n++) due("bag of " + n, y.told(10 + n), bags[n]);
        for (int what : new int[] {-1, 6, 7, 8, 9, 16, 17, 42, 74}) due("told " + what, y.told(what), OUTSIDE);
        for (int what : FAR) due("told " + what, y.told(what), OUTSIDE);
        due("wrapped round to A", y.told(Integer.MIN_VALUE + 10), OUTSIDE);
        y.move(0);
        y.move(5);
        due("A is not there", y.told(10), OUTSIDE);
        due("F is not there", y.told(15), OUTSIDE);
        due("B is", y.told(11), 20);
    }

    private static void lastCalls() {
        sentence("An object is used for at most 512 calls after it has been made");
        StolenApples x = new StolenApples();
        for (int i = 0; i < 510; i++) x.neighbour(i % 6, i % 100, 1 + i % 20);
        due("the 511th", x.told(1), 63);
        due("the 512th", x.state(5, 0), 9);
    }
}
