/** The document's section 'Terms', 1 and 2: each sentence that names a boundary case, in its order. */
public final class TermsTest extends Checks {
    public static void main(String[] args) {
        refusalNumbers();
        firstThatFits();
        fractions();
        bits();
        neighbours();
        applesAndBags();
        atFirst();
        frostLimits();
        toRob();
        robbedAndOut();
        padLimits();
        lettersAct();
        lampAndDog();
        caughtHeap();
        caughtTree();
        caughtWhom();
        nightEnds();
        yearEnds();
        faultSigns();
        faultPlaces();
        reasonsAlone();
        reasonsOneWithOthers();
        reasonsOfOneself();
        reasonsLater();
        reasonsOfOtherActs();
        judged();
        doneAndBehind();
        bareShameHonour();
        mayAndSafe();
        end();
    }

    private static void refusalNumbers() {
        sentence("UNKNOWN -1 (there is no such NEIGHBOUR), OUTSIDE -2 (another number is not as told), NO -5 (as told), STATE -3 (as told), FULL -4");
        due("NONE", StolenApples.NONE, -6);
        due("UNKNOWN", StolenApples.UNKNOWN, -1);
        due("OUTSIDE", StolenApples.OUTSIDE, -2);
        due("STATE", StolenApples.STATE, -3);
        due("FULL", StolenApples.FULL, -4);
        due("NO", StolenApples.NO, -5);
        due("LOST", StolenApples.LOST, -1000000000000000000L);
    }

    private static void firstThatFits() {
        sentence("Calls that are refused answer, the first of these that fits");
        StolenApples x = three();
        for (int i = 0; i < 8; i++) x.seen(0, 10);
        write(x, "A".repeat(60));
        x.say('A');
        due("neighbour: UNKNOWN, OUTSIDE twice", x.neighbour(6, 100, 21), UNKNOWN);
        due("state: UNKNOWN, OUTSIDE", x.state(3, 4), UNKNOWN);
        write(x, "A");
        due("behind: UNKNOWN, OUTSIDE, NO", x.behind(3, 4), UNKNOWN);
        due("behind: UNKNOWN, NO", x.behind(3, 0), UNKNOWN);
        due("behind: OUTSIDE, NO", x.behind(0, 4), OUTSIDE);
        due("behind: NO", x.behind(0, 3), NO);
        due("judge: OUTSIDE, NO", x.judge(2), OUTSIDE);
        due("judge: NO", x.judge(1), NO);
        due("seen: UNKNOWN, OUTSIDE, FULL", x.seen(3, 100), UNKNOWN);
        due("seen: UNKNOWN, FULL", x.seen(3, 99), UNKNOWN);
        due("seen: OUTSIDE, FULL", x.seen(0, 100), OUTSIDE);
        due("seen: FULL", x.seen(0, 99), FULL);
        write(x, "$".repeat(60));
        due("say: OUTSIDE, FULL", x.say(32), OUTSIDE);
        due("say: FULL", x.say('$'), FULL);
        due("duel: UNKNOWN, OUTSIDE", x.duel(0, 0, 3, 2), UNKNOWN);
        due("duel: UNKNOWN of the set, OUTSIDE", x.duel(0, 1, 8, -1), UNKNOWN);
        due("caught: UNKNOWN, OUTSIDE, STATE", x.caught(2, 3, 11, 2, 2), LOST + UNKNOWN);
        due("caught: UNKNOWN as one, OUTSIDE", x.caught(2, 2, 11, 0, 0), LOST + UNKNOWN);
        due("caught: OUTSIDE by part, STATE", x.caught(0, 2, 0, 0, 2), LOST + OUTSIDE);
        due("caught: OUTSIDE by what, STATE", x.caught(0, 2, 0, 2, 0), LOST + OUTSIDE);
        due("caught: OUTSIDE by t, STATE", x.caught(0, 2, 11, 0, 0), LOST + OUTSIDE);
        due("caught: STATE", x.caught(0, 2, 10, 1, 1), LOST + STATE);
        due("moons: UNKNOWN, OUTSIDE", x.moons(3, 61), UNKNOWN);
        due("restore: OUTSIDE, nothing kept", x.restore(2), OUTSIDE);
        due("restore: STATE", x.restore(1), STATE);
    }

    private static long commonDivisor(long a, long b) {
        return b == 0 ? a : commonDivisor(b, a % b);
    }

    private static void fractions() {
        sentence("Fractions are told in lowest terms by part: 0 the upper, 1 the lower number");
        for (int bag = 1; bag <= 20; bag++) {
            for (int t = 0; t <= 10; t++) {
                StolenApples x = land(one(0, bag), one(99, 1));
                for (int what = 0; what <= 1; what++) {
                    long upper = x.caught(0, 1, t, what, 0);
                    long lower = x.caught(0, 1, t, what, 1);
                    due("common divisor of " + upper + " and " + lower, commonDivisor(lower, upper), 1);
                    long mean = (10 - t) * bag + t * Math.max(0, bag - 9);
                    long more = 10 - t + (bag > 9 ? t : 0);
                    due("ten times it", upper * 10, (what == 0 ? mean : more) * lower);
                }
            }
        }
        StolenApples x = three();
        due("nothing: upper", x.caught(0, 1, 10, 0, 0), 0);
        due("nothing: lower", x.caught(0, 1, 10, 0, 1), 1);
        due("half: upper", x.caught(0, 1, 5, 1, 0), 1);
        due("half: lower", x.caught(0, 1, 5, 1, 1), 2);
        due("whole: upper", x.caught(0, 1, 0, 1, 0), 1);
        due("whole: lower", x.caught(0, 1, 0, 1, 1), 1);
        sentence("refused with LOST and the refusal");
        due("UNKNOWN", x.caught(3, 0, 0, 0, 0), -1000000000000000001L);
        due("OUTSIDE", x.caught(0, 1, 11, 0, 0), -1000000000000000002L);
        due("STATE", x.caught(0, 2, 0, 0, 0), -1000000000000000003L);
    }

    private static void bits() {
        sentence("Sets of NEIGHBOURS are bits");
        for (int n = 0; n < 6; n++) {
            StolenApples x = new StolenApples();
            x.neighbour(n, 0, 1);
            due("there", x.told(1), 1 << n);
            due("bare", x.trees(0), 1 << n);
            due("shame", x.trees(1), 1 << n);
            due("safe", x.safe(), 1 << n);
            int other = (n + 1) % 6;
            x.neighbour(other, 1, 1);
            due("may", x.may(n), 1 << other);
            due("in some", x.boots(1), 1 << n);
            after(x, (char) ('A' + n) + "*" + (char) ('A' + other) + "~" + (char) ('A' + n) + "~");
            due("lamps", x.told(4), 1 << n);
            due("dogs", x.told(3), 1 << n | 1 << other);
        }
        StolenApples x = six(5, 5);
        due("all six", x.told(1), 63);
        due("all six in shame", x.trees(1), 63);
        due("all six out in some", x.boots(1), 63);
        after(x, "AB.AC.AD.AE.AF");
        due("all robbed by A", x.state(0, 3), 62);
    }

    private static void neighbours() {
        sentence("NEIGHBOURS 0 to 5 (A to F), some of whom are there (none at first)");
        StolenApples x = new StolenApples();
        for (int n = 0; n < 6; n++) due("nobody at first", x.state(n, 0), UNKNOWN);
        due("A is 0", x.neighbour(0, 1, 1), 1);
        due("F is 5", x.neighbour(5, 1, 1), 2);
        after(x, "A*F~");
        due("A's lamp", x.told(4), 1);
        due("F's dog", x.told(3), 32);
        due("B is not there", whyOf(x, "B*"), 1);
        due("before A is none", faultOf("@*"), 0);
        due("behind F is none", faultOf("G*"), 0);
        StolenApples y = six(9, 9);
        for (int n : NOBODY) {
            due("neighbour " + n, y.neighbour(n, 1, 1), UNKNOWN);
            due("move " + n, y.move(n), UNKNOWN);
            due("state " + n, y.state(n, 0), UNKNOWN);
            due("behind " + n, y.behind(n, 0), UNKNOWN);
            due("may " + n, y.may(n), UNKNOWN);
            due("chain from " + n, y.chain(n, 1), UNKNOWN);
            due("chain to " + n, y.chain(1, n), UNKNOWN);
            due("exchange, first " + n, y.exchange(n, 1, 2), UNKNOWN);
            due("exchange, second " + n, y.exchange(1, n, 2), UNKNOWN);
            due("exchange, tree " + n, y.exchange(1, 2, n), UNKNOWN);
            due("seen " + n, y.seen(n, 1), UNKNOWN);
            due("duel, first " + n, y.duel(n, 1, 3, 0), UNKNOWN);
            due("duel, second " + n, y.duel(1, n, 3, 0), UNKNOWN);
            due("caught " + n, y.caught(n, 1, 0, 0, 0), LOST + UNKNOWN);
            due("caught by " + n, y.caught(1, n, 0, 0, 0), LOST + UNKNOWN);
            due("moons " + n, y.moons(n, 6), UNKNOWN);
        }
        due("still six", y.told(1), 63);
    }

    private static void applesAndBags() {
        sentence("a TREE with APPLES (0 to 99)");
        range("neighbour's apples", 0, 99, OUTSIDE, StolenApples::new, (x, v) -> x.neighbour(0, v, 1));
        range("seen apples", 0, 99, OUTSIDE, Checks::three, (x, v) -> x.seen(0, v));
        StolenApples x = new StolenApples();
        x.neighbour(0, 0, 1);
        due("none", x.state(0, 0), 0);
        x.neighbour(0, 99, 1);
        due("ninety-nine", x.state(0, 0), 99);
        sentence("a BAG (1 to 20: so much he takes at the most at a time)");
        range("neighbour's bag", 1, 20, OUTSIDE, StolenApples::new, (y, v) -> y.neighbour(0, 1, v));
        for (int bag = 1; bag <= 20; bag++) {
            StolenApples y = after(land(one(0, bag), one(99, 1)), "AB");
            due("a bag of " + bag, y.state(0, 1), bag);
            due("less than 99 by " + bag, y.state(1, 0), 99 - bag);
        }
    }

    private static void atFirst() {
        sentence("a HEAP (0 at first), a DOG that is up or sleeps (sleeps at first), a LAMP that burns or not (not, at first)");
        for (int n = 0; n < 6; n++) {
            StolenApples x = new StolenApples();
            x.neighbour(n, 99, 20);
            due("heap", x.state(n, 1), 0);
            due("out", x.state(n, 2), 0);
            due("robbed", x.state(n, 3), 0);
            due("dogs", x.told(3), 0);
            due("lamps", x.told(4), 0);
        }
        sentence("FROST: in how many nights it is (0 to 30; 10 at first)");
        due("frost", new StolenApples().told(2), 10);
        due("frost", new StolenApples().frost(0), 10);
        due("ten nights can end", perform(new StolenApples(), "..........") , 10);
        due("the eleventh can not", whichOf(new StolenApples(), "..........."), 10);
    }

    private static void frostLimits() {
        sentence("FROST: in how many nights it is (0 to 30; 10 at first)");
        range("frost", 0, 30, OUTSIDE, StolenApples::new, (x, v) -> x.frost(v));
        StolenApples x = new StolenApples();
        x.frost(30);
        due("thirty nights", perform(x, ".".repeat(30)), 30);
        due("none is left", x.told(2), 0);
        due("no night more", whyOf(x, "."), 7);
        x.frost(31);
        due("not changed by 31", x.told(2), 0);
    }

    private static void toRob() {
        sentence("the thief takes as many APPLES as his BAG holds, or as there are, from the other one's TREE to his HEAP");
        int[][] cases = {
            {4, 1, 1}, {4, 3, 3}, {4, 4, 4}, {4, 5, 4}, {1, 1, 1}, {1, 2, 1}, {20, 19, 19}, {20, 20, 20}, {20, 21, 20}, {20, 99, 20}
        };
        for (int[] c : cases) {
            StolenApples x = after(land(one(7, c[0]), one(c[1], 1)), "AB");
            due("taken by a bag of " + c[0] + " of " + c[1], x.state(0, 1), c[2]);
            due("left by a bag of " + c[0] + " of " + c[1], x.state(1, 0), c[1] - c[2]);
            due("his own tree", x.state(0, 0), 7);
            due("the other one's heap", x.state(1, 1), 0);
        }
    }

    private static void robbedAndOut() {
        sentence("he has ROBBED him then, this year, and was OUT, this night");
        StolenApples x = after(six(50, 2), "AB");
        due("robbed", x.state(0, 3), 2);
        due("the other one has robbed nobody", x.state(1, 3), 0);
        due("out", x.state(0, 2), 1);
        due("the other one was not out", x.state(1, 2), 0);
        after(x, ".");
        due("robbed, on another night", x.state(0, 3), 2);
        due("not out, on another night", x.state(0, 2), 0);
        after(x, "AC$");
        due("not robbed, in another year", x.state(0, 3), 0);
        due("not out, in another year", x.state(0, 2), 0);
    }

    private static void padLimits() {
        sentence("NIGHTS are a text on a PAD (60 SIGNS at most, codes 33 to 126)");
        range("say", 33, 126, OUTSIDE, StolenApples::new, (x, v) -> x.say(v));
        StolenApples x = new StolenApples();
        for (int i = 1; i <= 60; i++) due("sign " + i, x.say(33 + i), i);
        due("the sixty-first", x.say(33), FULL);
        due("sixty", x.told(0), 60);
        due("all sixty go", x.wipe(), 60);
        due("room again", x.say(126), 1);
        StolenApples y = new StolenApples();
        write(y, "$".repeat(60));
        due("a full pad is done", y.done(), 60);
        due("room again", y.say('$'), 1);
        for (int v : new int[] {65 + 256, 65 + 65536, 65 - 256}) due("not cut to a letter", y.say(v), OUTSIDE);
    }

    private static void lettersAct() {
        sentence("two NEIGHBOURS' letters (the first robs the second)");
        for (int a = 0; a < 6; a++) {
            for (int b = 0; b < 6; b++) {
                if (a == b) continue;
                StolenApples x = after(six(9, 4), "" + (char) ('A' + a) + (char) ('A' + b));
                due("robbed", x.state(a, 3), 1 << b);
                due("heap", x.state(a, 1), 4);
                due("tree", x.state(b, 0), 5);
            }
        }
    }

    private static void lampAndDog() {
        sentence("a letter and * (his LAMP burns, or burns no more)");
        StolenApples x = six(1, 1);
        due("once", after(x, "C*").told(4), 4);
        due("twice", after(x, "C*").told(4), 0);
        due("three times and another one's", after(x, "C*C*C*F*").told(4), 36);
        sentence("~ (his DOG sleeps, or is up)");
        due("once", after(x, "C~").told(3), 4);
        due("twice", after(x, "C~").told(3), 0);
        due("three times and another one's", after(x, "C~C~C~A~").told(3), 5);
        due("the lamps stay", x.told(4), 36);
        after(x, ".$");
        due("the dogs stay, over nights and years", x.told(3), 5);
        due("the lamps stay, over nights and years", x.told(4), 36);
    }

    /** A robs B of just so many, and is caught. */
    private static StolenApples caughtWith(int heap) {
        return after(land(one(5, heap), one(heap, 1)), "ABA!");
    }

    private static void caughtHeap() {
        sentence("he is caught: 9 of his HEAP, or as many as there are, are on the TREE of whom he robbed last this night again");
        int[][] cases = {{1, 0, 1}, {8, 0, 8}, {9, 0, 9}, {10, 1, 9}, {18, 9, 9}, {20, 11, 9}};
        for (int[] c : cases) {
            StolenApples x = caughtWith(c[0]);
            due("heap of " + c[0], x.state(0, 1), c[1]);
            due("back on the tree", x.state(1, 0), c[2]);
        }
        StolenApples x = caughtWith(8);
        due("caught with nothing can be", perform(x, "A!"), 1);
        due("still nothing", x.state(0, 1), 0);
        due("nothing more on the tree", x.state(1, 0), 8);
        due("he has robbed him still", x.state(0, 3), 2);
        due("he was out still", x.state(0, 2), 1);
        StolenApples y = caughtWith(20);
        after(y, "A!");
        due("twice", y.state(0, 1), 2);
        due("twice, on the tree", y.state(1, 0), 18);
        after(y, "A!A!");
        due("two are left to give", y.state(0, 1), 0);
        due("all are back", y.state(1, 0), 20);
    }

    private static void caughtTree() {
        sentence("99 at most there, what is above is lost");
        int[][] cases = {{89, 98}, {90, 99}, {91, 99}, {98, 99}, {99, 99}};
        for (int[] c : cases) {
            StolenApples x = after(land(one(5, 20), one(50, 1)), "AB");
            x.neighbour(1, c[0], 1);
            after(x, "A!");
            due("a tree of " + c[0], x.state(1, 0), c[1]);
            due("nine are gone", x.state(0, 1), 11);
        }
    }

    private static void caughtWhom() {
        sentence("of whom he robbed last this night");
        StolenApples x = after(six(50, 10), "AB.AC");
        after(x, "A!");
        due("C gets them", x.state(2, 0), 49);
        due("B does not", x.state(1, 0), 40);
        StolenApples y = after(six(50, 10), "AB$ADA!");
        due("after the year's end, D", y.state(3, 0), 49);
        due("after the year's end, not B", y.state(1, 0), 40);
        StolenApples z = after(six(50, 10), "ABCDA!C!");
        due("each to his own: B", z.state(1, 0), 49);
        due("each to his own: D", z.state(3, 0), 49);
    }

    private static void nightEnds() {
        sentence(". (the night ends: nobody was OUT, FROST is a night nearer)");
        StolenApples x = after(six(50, 1), "ABBACDDCEFFE");
        for (int n = 0; n < 6; n++) due("out", x.state(n, 2), 1);
        after(x, ".");
        for (int n = 0; n < 6; n++) due("not out", x.state(n, 2), 0);
        for (int n = 0; n < 6; n++) due("robbed still", x.state(n, 3), 1 << (n ^ 1));
        due("nine nights", x.told(2), 9);
        x.frost(1);
        due("the last night ends", perform(x, "."), 1);
        due("frost is here", x.told(2), 0);
        due("no night more", perform(x, "."), NO);
        due("frost is never less than 0", x.told(2), 0);
    }

    private static void yearEnds() {
        sentence("$ (the year ends: nobody has ROBBED, was OUT)");
        StolenApples x = after(six(50, 1), "ABBACDDCEFFE");
        after(x, "$");
        for (int n = 0; n < 6; n++) due("not out", x.state(n, 2), 0);
        for (int n = 0; n < 6; n++) due("robbed nobody", x.state(n, 3), 0);
        for (int n = 0; n < 6; n++) due("heaps stay", x.state(n, 1), 1);
        due("frost stays", x.told(2), 10);
        due("all are in shame", x.trees(1), 63);
        due("he can not be caught", whyOf(x, "A!"), 8);
        due("the same one again", perform(x, "AB"), 1);
        x.frost(0);
        due("frost does not bar the year's end", perform(x, "$"), 1);
        due("with nobody", perform(new StolenApples(), "$"), 1);
    }

    private static void faultSigns() {
        sentence("THE FAULT: the place (from 0 on) of the first sign that can not stand there");
        for (int code = 33; code <= 126; code++) {
            String sign = String.valueOf((char) code);
            boolean letter = code >= 'A' && code <= 'F';
            boolean alone = code == '.' || code == '$';
            boolean second = letter || code == '*' || code == '~' || code == '!';
            due("first " + sign, faultOf(sign), letter ? 1 : alone ? NONE : 0);
            due("second " + sign, faultOf("A" + sign), second ? NONE : 1);
            due("after an act " + sign, faultOf("AB" + sign), letter ? 3 : alone ? NONE : 2);
            due("after a night " + sign, faultOf("." + sign), letter ? 2 : alone ? NONE : 1);
            due("last " + sign, faultOf(".".repeat(59) + sign), letter ? 60 : alone ? NONE : 59);
        }
    }

    private static void faultPlaces() {
        sentence("the number of signs, if more must come");
        due("none", faultOf(""), NONE);
        due("one", faultOf("F"), 1);
        due("three", faultOf("FAF"), 3);
        due("fifty-nine", faultOf("AB".repeat(29) + "C"), 59);
        due("sixty", faultOf("$" + "AB".repeat(29) + "C"), 60);
        due("sixty that are whole", faultOf("AB".repeat(30)), NONE);
        sentence("of the first sign that can not stand there");
        due("the first of several", faultOf("A.B."), 1);
        due("ahead of what must come", faultOf("*A"), 0);
        due("at the end of a full pad", faultOf("AB".repeat(29) + "C#"), 59);
        due("who is there does not matter", faultOf("EFFF"), NONE);
    }

    /** Each reason, with no other one. */
    private static void reasonsAlone() {
        sentence("An ACT can not be for the least of these reasons: 1 a NEIGHBOUR is not there");
        StolenApples x = land(one(9, 1), one(9, 1), one(0, 1));
        due("thief", whyOf(x, "DA"), 1);
        due("robbed one", whyOf(x, "AD"), 1);
        due("lamp", whyOf(x, "D*"), 1);
        due("dog", whyOf(x, "D~"), 1);
        due("caught", whyOf(x, "D!"), 1);
        sentence("2 both are one");
        for (int n = 0; n < 6; n++) {
            String self = "" + (char) ('A' + n) + (char) ('A' + n);
            due(self, whyOf(six(9, 1), self), 2);
        }
        sentence("3 he has ROBBED him");
        due("on another night", whyOf(x, "AB.AB"), 3);
        due("only he", whyOf(x, "AB.CBBA"), NONE);
        due("not in another year", whyOf(x, "AB$AB"), NONE);
        sentence("4 he was OUT");
        due("the same night", whyOf(six(9, 1), "ABAC"), 4);
        due("not whom he robbed", whyOf(six(9, 1), "ABBA"), NONE);
        due("not on another night", whyOf(six(9, 1), "AB.AC"), NONE);
        due("not in another year", whyOf(six(9, 1), "AB$AC"), NONE);
        sentence("5 the DOG is up, and no LAMP burns there");
        due("dog, no lamp", whyOf(x, "B~AB"), 5);
        due("dog, lamp", whyOf(x, "B~B*AB"), NONE);
        due("no dog, no lamp", whyOf(x, "AB"), NONE);
        due("no dog, lamp", whyOf(x, "B*AB"), NONE);
        due("the thief's dog", whyOf(x, "A~AB"), NONE);
        due("the thief's lamp", whyOf(x, "B~A*AB"), 5);
        sentence("6 the TREE is bare");
        due("bare", whyOf(x, "AC"), 6);
        due("the thief's own is bare", whyOf(x, "CA"), NONE);
        due("made bare by another one", whyOf(land(one(9, 1), one(1, 1), one(0, 1)), "ABCB"), 6);
        due("one apple is left", whyOf(land(one(9, 1), one(2, 1), one(0, 1)), "ABCB"), NONE);
        sentence("7 FROST is 0 (to rob; .)");
        x.frost(0);
        due("to rob", whyOf(x, "AB"), 7);
        due("the night ends", whyOf(x, "."), 7);
        due("the year ends", whyOf(x, "$"), NONE);
        due("lamp, dog", whyOf(x, "A*A~"), NONE);
        x.frost(1);
        due("one night is left", whyOf(x, "AB."), NONE);
        due("behind it none", whyOf(x, ".AB"), 7);
    }

    private static void reasonsOneWithOthers() {
        sentence("An ACT can not be for the least of these reasons");
        StolenApples x = land(one(9, 1), one(9, 1), one(0, 1));
        due("1 with 2", whyOf(x, "DD"), 1);
        due("1 with 4", whyOf(x, "ABAD"), 1);
        due("1 with 5", whyOf(x, "A~DA"), 1);
        due("1 with 6", whyOf(x, "DC"), 1);
        due("1 with 5 and 6", whyOf(x, "C~DC"), 1);
        x.frost(0);
        due("1 with 7", whyOf(x, "DA"), 1);
        due("1 with 7, the robbed one", whyOf(x, "AD"), 1);
        due("1 with 8", whyOf(x, "D!"), 1);
    }

    private static void reasonsOfOneself() {
        sentence("An ACT can not be for the least of these reasons");
        StolenApples x = land(one(9, 1), one(9, 1), one(0, 1));
        due("2 with 4", whyOf(x, "ABAA"), 2);
        due("2 with 5", whyOf(x, "A~AA"), 2);
        due("2 with 6", whyOf(x, "CC"), 2);
        x.frost(0);
        due("2 with 7", whyOf(x, "AA"), 2);
        due("2 with 5, 6 and 7", whyOf(x, "C~CC"), 2);
    }

    private static void reasonsLater() {
        sentence("An ACT can not be for the least of these reasons");
        StolenApples x = land(one(9, 1), one(1, 1), one(0, 1));
        due("3 with 4 and 6", whyOf(x, "ABAB"), 3);
        due("3 with 5", whyOf(land(one(9, 1), one(9, 1)), "AB.B~AB"), 3);
        due("3 with 6", whyOf(x, "AB.AB"), 3);
        due("3 with 4", whyOf(land(one(9, 1), one(9, 1)), "ABAB"), 3);
        due("4 with 5", whyOf(six(9, 1), "C~ABAC"), 4);
        due("4 with 6", whyOf(x, "ABAC"), 4);
        due("5 with 6", whyOf(x, "C~AC"), 5);
        StolenApples y = after(six(9, 1), "AB");
        y.frost(0);
        due("3 with 4 and 7", whyOf(y, "AB"), 3);
        due("4 with 7", whyOf(y, "AC"), 4);
        due("5 with 7", whyOf(y, "D~CD"), 5);
        y.neighbour(3, 0, 1);
        due("6 with 7", whyOf(y, "CD"), 6);
        StolenApples z = after(six(9, 1), "AB.");
        z.frost(0);
        due("3 with 7", whyOf(z, "AB"), 3);
    }

    private static void reasonsOfOtherActs() {
        sentence("8 he was not OUT (!), or whom he robbed last is there no more");
        StolenApples x = six(9, 1);
        due("not out", whyOf(x, "A!"), 8);
        due("out", whyOf(x, "ABA!"), NONE);
        due("whom he robbed was not out", whyOf(x, "ABB!"), 8);
        due("not this night", whyOf(x, "AB.A!"), 8);
        due("not this year", whyOf(x, "AB$A!"), 8);
        after(x, "AB");
        due("out before", whyOf(x, "A!"), NONE);
        x.move(2);
        due("another one is there no more", whyOf(x, "A!"), NONE);
        x.frost(0);
        due("frost does not matter", whyOf(x, "A!"), NONE);
        after(x, "B~B*B*A~");
        due("dogs do not matter", whyOf(x, "A!"), NONE);
        x.move(1);
        due("whom he robbed is there no more", whyOf(x, "A!"), 8);
        due("he was out still", x.state(0, 2), 1);
        x.neighbour(1, 9, 1);
        due("one who came is not whom he robbed", whyOf(x, "A!"), 8);
    }

    private static void judged() {
        sentence("JUDGED: of NIGHTS the first ACT (from 0 on) that can not be, and why");
        StolenApples x = six(9, 1);
        due("the first", whichOf(x, "AA"), 0);
        due("the second", whichOf(x, "A*AA"), 1);
        due("signs are not acts", whichOf(x, "A*.$AA"), 3);
        due("the first of several", whichOf(x, "ABAABB"), 1);
        due("why of the first of several", whyOf(x, "ABAABA."), 2);
        due("the last of thirty", whichOf(x, "A*".repeat(29) + "AA"), 29);
        due("the last of sixty", whichOf(x, "$".repeat(58) + "AA"), 58);
        x.frost(30);
        due("the thirty-first night", whichOf(x, ".".repeat(60)), 30);
        due("why", x.judge(1), 7);
        due("thirty nights, the year's end thirty times", whichOf(x, ".$".repeat(30)), NONE);
        due("none: why", x.judge(1), NONE);
        due("empty", whichOf(x, ""), NONE);
        due("empty: why", x.judge(1), NONE);
    }

    private static void doneAndBehind() {
        StolenApples x = land(one(9, 2), one(9, 3), one(9, 4));
        write(x, "C~B*AB.A~A*BA");
        sentence("BEHIND, likewise, not being DONE: of a NEIGHBOUR APPLES on his TREE, his HEAP, whether he was OUT");
        int[][] behind = new int[3][4];
        for (int n = 0; n < 3; n++) for (int w = 0; w < 4; w++) behind[n][w] = x.behind(n, w);
        due("not done: heap", x.state(0, 1), 0);
        due("not done: apples", x.state(1, 0), 9);
        due("not done: out", x.state(1, 2), 0);
        due("not done: robbed", x.state(0, 3), 0);
        due("not done: frost", x.told(2), 10);
        due("not done: dogs", x.told(3), 0);
        due("not done: lamps", x.told(4), 0);
        due("not done: the pad", x.told(0), 13);
        sentence("DONE: all is so then");
        due("done", x.done(), 7);
        for (int n = 0; n < 3; n++) {
            for (int w = 0; w < 4; w++) due("as behind", x.state(n, w), behind[n][w]);
        }
        due("A's heap", x.state(0, 1), 2);
        due("B's heap", x.state(1, 1), 3);
        due("B was out", x.state(1, 2), 1);
        due("A was not, this night", x.state(0, 2), 0);
        due("dogs", x.told(3), 5);
        due("lamps", x.told(4), 3);
        due("frost", x.told(2), 9);
        due("the pad", x.told(0), 0);
        due("behind nothing", x.behind(1, 1), 3);
    }

    private static void bareShameHonour() {
        sentence("BARE: TREES without APPLES");
        StolenApples x = land(one(0, 1), one(1, 1), one(99, 1), one(0, 20));
        due("none is 0, one is not", x.trees(0), 9);
        after(x, "AB");
        due("the last apple", x.trees(0), 11);
        x.move(0);
        due("who is not there has no tree", x.trees(0), 10);
        sentence("SHAME: whom nobody has ROBBED this year");
        StolenApples y = after(six(9, 1), "ABCB");
        due("all but B", y.trees(1), 61);
        y.move(0);
        due("one robber is left", y.trees(1), 60);
        y.move(2);
        due("no robber is left", y.trees(1), 58);
        sentence("HONOUR: who has the greatest HEAP (of several the least)");
        StolenApples z = six(50, 7);
        due("all have none", z.trees(2), 0);
        due("the last", after(z, "FA").trees(2), 5);
        due("two of the same", after(z, "CA").trees(2), 2);
        due("three of the same", after(z, "DA").trees(2), 2);
        z.move(2);
        due("of those who are there", z.trees(2), 3);
        StolenApples w = new StolenApples();
        w.neighbour(5, 1, 1);
        due("alone, with nothing", w.trees(2), 5);
    }

    private static void mayAndSafe() {
        sentence("MAY: whom one can rob now (ACTS' reasons), as bits");
        StolenApples x = six(9, 1);
        due("all others", x.may(2), 59);
        x.move(5);
        due("1", x.may(2), 27);
        after(x, "CA.");
        due("3", x.may(2), 26);
        after(x, "B~");
        due("5", x.may(2), 24);
        x.neighbour(3, 0, 1);
        due("6", x.may(2), 16);
        after(x, "CE");
        due("4", x.may(2), 0);
        due("another one may", x.may(0), 20);
        x.frost(0);
        due("7", x.may(0), 0);
        sentence("SAFE: those whom nobody can, were nobody OUT, and FROST far");
        due("dog, bare", x.safe(), 10);
        StolenApples y = after(six(9, 1), "ABBACDDCEFFE");
        y.frost(0);
        due("all were out, frost is 0", y.safe(), 0);
        StolenApples z = after(land(one(9, 1), one(9, 1)), "AB");
        due("robbed by the only other one", z.safe(), 2);
        after(z, "$");
        due("in another year", z.safe(), 0);
        z.move(0);
        due("nobody else is there", z.safe(), 2);
        z.move(1);
        due("nobody at all", z.safe(), 0);
    }
}
