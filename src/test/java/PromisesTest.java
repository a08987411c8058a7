/** Promise by promise: ordinary inputs, the edges that the document names, wrong inputs. */
public final class PromisesTest extends Checks {
    public static void main(String[] args) {
        newObject();
        neighbour();
        move();
        moveAndSights();
        frost();
        say();
        wipe();
        fault();
        judge();
        judgeLeastReason();
        judgeCatch();
        done();
        state();
        behind();
        trees();
        may();
        safe();
        stripped();
        thefts();
        round();
        chain();
        exchange();
        seen();
        forget();
        boots();
        look();
        duel();
        caught();
        moons();
        year();
        image();
        restore();
        told();
        end();
    }

    private static void newObject() {
        StolenApples x = new StolenApples();
        due("p1 nobody is there", x.told(1), 0);
        due("p1 frost", x.told(2), 10);
        due("p1 signs", x.told(0), 0);
        due("p1 dogs", x.told(3), 0);
        due("p1 lamps", x.told(4), 0);
        due("p1 sights", x.told(5), 0);
        due("p1 no image 0", x.restore(0), STATE);
        due("p1 no image 1", x.restore(1), STATE);
    }

    private static void neighbour() {
        StolenApples x = new StolenApples();
        due("p2 one", x.neighbour(5, 99, 20), 1);
        due("p2 two", x.neighbour(0, 0, 1), 2);
        due("p2 apples", x.state(5, 0), 99);
        due("p2 bag", x.told(15), 20);
        due("p2 unknown below", x.neighbour(-1, 0, 1), UNKNOWN);
        due("p2 unknown above", x.neighbour(6, 0, 1), UNKNOWN);
        due("p2 unknown before outside", x.neighbour(6, 100, 0), UNKNOWN);
        due("p2 apples below", x.neighbour(1, -1, 1), OUTSIDE);
        due("p2 apples above", x.neighbour(1, 100, 1), OUTSIDE);
        due("p2 bag below", x.neighbour(1, 0, 0), OUTSIDE);
        due("p2 bag above", x.neighbour(1, 0, 21), OUTSIDE);
        due("p2 refused changes nothing", x.told(1), 33);
        x = three();
        perform(x, "A~A*AB");
        due("p2 anew", x.neighbour(0, 7, 9), 3);
        due("p2 anew apples", x.state(0, 0), 7);
        due("p2 anew bag", x.told(10), 9);
        due("p2 anew heap stays", x.state(0, 1), 4);
        due("p2 anew out stays", x.state(0, 2), 1);
        due("p2 anew robbed stays", x.state(0, 3), 2);
        due("p2 anew dog stays", x.told(3), 1);
        due("p2 anew lamp stays", x.told(4), 1);
    }

    private static void move() {
        StolenApples x = three();
        due("p3 not there", x.move(3), UNKNOWN);
        due("p3 below", x.move(-1), UNKNOWN);
        due("p3 above", x.move(6), UNKNOWN);
        perform(x, "A~A*ABBACB");
        due("p3 two are left", x.move(0), 2);
        due("p3 there", x.told(1), 6);
        due("p3 twice", x.move(0), UNKNOWN);
        due("p3 nobody has robbed him", x.state(1, 3), 0);
        due("p3 robber stays out", x.state(1, 2), 1);
        due("p3 robber's heap stays", x.state(1, 1), 10);
        due("p3 his robbing is gone, C's stays", x.trees(1), 4);
        x.neighbour(0, 8, 8);
        due("p3 back: heap", x.state(0, 1), 0);
        due("p3 back: out", x.state(0, 2), 0);
        due("p3 back: robbed", x.state(0, 3), 0);
        due("p3 back: dog", x.told(3), 0);
        due("p3 back: lamp", x.told(4), 0);
        due("p3 whom B robbed last is not the one who came", whyOf(x, "B!"), 8);
        perform(x, ".");
        due("p3 may be robbed anew", whyOf(x, "BA"), NONE);
    }

    private static void moveAndSights() {
        StolenApples x = three();
        x.seen(0, 10);
        due("p3 sight is so", x.boots(0) > 0 ? 1 : 0, 1);
        x.move(0);
        due("p3 sights stay", x.told(5), 1);
        due("p3 a sight of no tree is not so", x.boots(0), 0);
        x.neighbour(0, 10, 4);
        due("p3 it is again", x.boots(0) > 0 ? 1 : 0, 1);
        x = three();
        x.seen(2, 0);
        x.move(2);
        due("p3 no apples are no tree", x.boots(0), 0);
    }

    private static void frost() {
        StolenApples x = new StolenApples();
        due("p4 at first", x.frost(30), 10);
        due("p4 most", x.frost(0), 30);
        due("p4 least", x.frost(5), 0);
        due("p4 below", x.frost(-1), OUTSIDE);
        due("p4 above", x.frost(31), OUTSIDE);
        due("p4 unchanged", x.told(2), 5);
        perform(x, "...");
        due("p4 nearer by nights", x.frost(5), 2);
    }

    private static void say() {
        StolenApples x = new StolenApples();
        due("p5 least", x.say(33), 1);
        due("p5 most", x.say(126), 2);
        due("p5 below", x.say(32), OUTSIDE);
        due("p5 above", x.say(127), OUTSIDE);
        for (int i = 3; i <= 60; i++) due("p5 sign", x.say('.'), i);
        due("p5 full", x.say('.'), FULL);
        due("p5 outside before full", x.say(127), OUTSIDE);
        due("p5 still sixty", x.told(0), 60);
    }

    private static void wipe() {
        StolenApples x = new StolenApples();
        due("p6 empty", x.wipe(), 0);
        write(x, "AB.");
        due("p6 three", x.wipe(), 3);
        due("p6 none are left", x.told(0), 0);
        due("p6 again", x.wipe(), 0);
        due("p6 from the start again", x.say('A'), 1);
    }

    private static void fault() {
        due("p7 empty", faultOf(""), NONE);
        due("p7 all kinds", faultOf("ABA*F~C!.$EE"), NONE);
        due("p7 more must come", faultOf("A"), 1);
        due("p7 more must come later", faultOf("AB.C"), 4);
        due("p7 no such letter", faultOf("G"), 0);
        due("p7 small letter", faultOf("Aa"), 1);
        due("p7 no letter first", faultOf("*"), 0);
        due("p7 dog first", faultOf("AB~"), 2);
        due("p7 catch first", faultOf(".!"), 1);
        due("p7 night inside", faultOf("A."), 1);
        due("p7 year inside", faultOf("A$"), 1);
        due("p7 second letter too far", faultOf("AG"), 1);
        due("p7 other sign", faultOf("$$#"), 2);
        due("p7 before A", faultOf("@A"), 0);
        due("p7 the first of two", faultOf("ABxx"), 2);
        due("p7 sixty signs and one wanting", faultOf("." + "AB".repeat(29) + "C"), 60);
        due("p7 sixty signs", faultOf("AB".repeat(30)), NONE);
    }

    private static void judge() {
        StolenApples x = three();
        due("p8 nothing", x.judge(0), NONE);
        write(x, "AB.CA");
        due("p8 all can be", x.judge(0), NONE);
        due("p8 why: all can be", x.judge(1), NONE);
        due("p8 below", x.judge(-1), OUTSIDE);
        due("p8 above", x.judge(2), OUTSIDE);
        write(x, "A*AB.AB");
        due("p8 which", x.judge(0), 3);
        due("p8 why", x.judge(1), 3);
        write(x, "A*AB.ABx");
        due("p8 fault", x.judge(0), NO);
        due("p8 outside before fault", x.judge(2), OUTSIDE);
        due("p8 nothing is done", x.state(0, 1), 0);
        due("p8 1 robbed one not there", whyOf(x, "AD"), 1);
        due("p8 1 robber not there", whyOf(x, "DA"), 1);
        due("p8 1 lamp", whyOf(x, "D*"), 1);
        due("p8 1 dog", whyOf(x, "D~"), 1);
        due("p8 1 catch", whyOf(x, "D!"), 1);
        due("p8 2", whyOf(x, "AA"), 2);
        due("p8 3", whyOf(x, "AB.AB"), 3);
        due("p8 3 not in another year", whyOf(x, "B~B*C~AB$B~"), NONE);
        due("p8 4", whyOf(x, "BABC"), 4);
        due("p8 4 not on another night", whyOf(x, "C*BA.BC"), 6);
        due("p8 5", whyOf(x, "B~AB"), 5);
        due("p8 5 one's own dog bars not", whyOf(x, "A~AB"), NONE);
        due("p8 5 one's own lamp helps not", whyOf(x, "B~A*AB"), 5);
        due("p8 5 a lamp there helps", whyOf(x, "B~B*AB"), NONE);
        due("p8 5 a lamp that burns no more", whyOf(x, "B~B*B*AB"), 5);
        due("p8 5 a dog that sleeps again", whyOf(x, "B~B~AB"), NONE);
        due("p8 6", whyOf(x, "AC"), 6);
        x.frost(0);
        due("p8 7 to rob", whyOf(x, "AB"), 7);
        due("p8 7 night", whyOf(x, "."), 7);
        due("p8 7 not the year", whyOf(x, "$"), NONE);
        due("p8 7 not lamps, dogs", whyOf(x, "A*A~"), NONE);
        x.frost(2);
        due("p8 7 comes by nights", whyOf(x, "...."), 7);
        due("p8 7 third night", x.judge(0), 2);
    }

    private static void judgeLeastReason() {
        StolenApples x = three();
        x.frost(0);
        due("p8 1 before 2", whyOf(x, "DD"), 1);
        due("p8 6 before 7", whyOf(x, "AC"), 6);
        due("p8 5 before 6", whyOf(x, "C~AC"), 5);
        x.frost(10);
        due("p8 4 before 5", whyOf(x, "C~BABC"), 4);
        due("p8 3 before 4", whyOf(x, "ABAB"), 3);
        due("p8 2 before 4", whyOf(x, "ABAA"), 2);
        due("p8 3 before 5, 6", whyOf(x, "AB.CB.B~AB"), 3);
    }

    private static void judgeCatch() {
        StolenApples x = three();
        due("p8 8 not out", whyOf(x, "A!"), 8);
        due("p8 8 another night", whyOf(x, "AB.A!"), 8);
        due("p8 8 another year", whyOf(x, "AB$A!"), 8);
        due("p8 caught twice", whyOf(x, "BAB!B!"), NONE);
        x.frost(0);
        due("p8 8 not frost", whyOf(x, "A!"), 8);
        x.frost(10);
        perform(x, "AB");
        x.frost(0);
        due("p8 frost bars no catch", whyOf(x, "A!"), NONE);
        x.move(1);
        due("p8 8 there no more", whyOf(x, "A!"), 8);
    }

    private static void done() {
        StolenApples x = three();
        due("p9 nothing", x.done(), 0);
        write(x, "A");
        due("p9 fault", x.done(), NO);
        due("p9 the pad stays", x.told(0), 1);
        write(x, "ABAC");
        due("p9 can not be", x.done(), NO);
        due("p9 nothing was done", x.state(0, 1), 0);
        due("p9 the pad stays still", x.told(0), 4);
        write(x, "AB.C~B*$BA");
        due("p9 acts", x.done(), 6);
        due("p9 the pad is empty", x.told(0), 0);
        due("p9 frost", x.told(2), 9);
        due("p9 dogs", x.told(3), 4);
        due("p9 lamps", x.told(4), 2);
        due("p9 robbed this year", x.state(0, 3), 0);
        due("p9 robbed by B", x.state(1, 3), 1);
        x = new StolenApples();
        x.neighbour(0, 99, 1);
        x.neighbour(1, 99, 20);
        x.neighbour(2, 50, 20);
        perform(x, "BC.BA");
        x.neighbour(0, 95, 1);
        due("p9 catch", perform(x, "B!"), 1);
        due("p9 99 at most", x.state(0, 0), 99);
        due("p9 nine are gone", x.state(1, 1), 31);
        perform(x, "B!");
        due("p9 lost", x.state(0, 0), 99);
        due("p9 gone again", x.state(1, 1), 22);
        due("p9 not the one of another night", x.state(2, 0), 30);
        perform(x, "AC");
        perform(x, "A!");
        due("p9 as many as there are", x.state(0, 1), 0);
        due("p9 so many come back", x.state(2, 0), 30);
    }

    private static void state() {
        StolenApples x = three();
        perform(x, "AB");
        due("p10 apples", x.state(1, 0), 1);
        due("p10 heap", x.state(0, 1), 4);
        due("p10 out", x.state(0, 2), 1);
        due("p10 at home", x.state(1, 2), 0);
        due("p10 robbed", x.state(0, 3), 2);
        perform(x, ".CB");
        due("p10 no more out", x.state(0, 2), 0);
        due("p10 robbed still", x.state(0, 3), 2);
        due("p10 what there is", x.state(2, 1), 1);
        due("p10 unknown", x.state(3, 0), UNKNOWN);
        due("p10 unknown before outside", x.state(6, 9), UNKNOWN);
        due("p10 below", x.state(0, -1), OUTSIDE);
        due("p10 above", x.state(0, 4), OUTSIDE);
    }

    private static void behind() {
        StolenApples x = three();
        write(x, "AB.BA");
        due("p11 apples", x.behind(0, 0), 0);
        due("p11 heap", x.behind(1, 1), 10);
        due("p11 out", x.behind(1, 2), 1);
        due("p11 no more out", x.behind(0, 2), 0);
        due("p11 robbed", x.behind(0, 3), 2);
        due("p11 not done", x.state(1, 1), 0);
        due("p11 frost", x.told(2), 10);
        due("p11 pad", x.told(0), 5);
        due("p11 unknown", x.behind(3, 0), UNKNOWN);
        due("p11 outside", x.behind(0, 4), OUTSIDE);
        write(x, "AA");
        due("p11 can not be", x.behind(0, 0), NO);
        due("p11 unknown before no", x.behind(-1, 0), UNKNOWN);
        due("p11 outside before no", x.behind(0, -1), OUTSIDE);
        write(x, "A");
        due("p11 fault", x.behind(0, 0), NO);
    }

    private static void trees() {
        StolenApples x = new StolenApples();
        due("p12 nobody: bare", x.trees(0), 0);
        due("p12 nobody: shame", x.trees(1), 0);
        due("p12 nobody: honour", x.trees(2), NONE);
        due("p12 below", x.trees(-1), OUTSIDE);
        due("p12 above", x.trees(3), OUTSIDE);
        x = three();
        due("p12 bare", x.trees(0), 4);
        due("p12 shame", x.trees(1), 7);
        due("p12 honour, the least", x.trees(2), 0);
        perform(x, "BA");
        due("p12 two bare", x.trees(0), 5);
        due("p12 less shame", x.trees(1), 6);
        due("p12 honour", x.trees(2), 1);
        perform(x, "$");
        due("p12 shame anew", x.trees(1), 7);
        due("p12 honour stays", x.trees(2), 1);
    }

    private static void may() {
        StolenApples x = three();
        due("p13 A", x.may(0), 2);
        due("p13 C", x.may(2), 3);
        due("p13 unknown", x.may(3), UNKNOWN);
        due("p13 below", x.may(-1), UNKNOWN);
        perform(x, "AB");
        due("p13 out", x.may(0), 0);
        perform(x, ".B~");
        due("p13 dog", x.may(2), 1);
        perform(x, "B*");
        due("p13 lamp", x.may(2), 3);
        x.frost(0);
        due("p13 frost", x.may(2), 0);
    }

    private static void safe() {
        StolenApples x = new StolenApples();
        due("p14 nobody", x.safe(), 0);
        x.neighbour(3, 9, 9);
        due("p14 alone", x.safe(), 8);
        x = three();
        due("p14 bare", x.safe(), 4);
        x.frost(0);
        due("p14 frost does not matter", x.safe(), 4);
        x.frost(9);
        perform(x, "ABCA");
        due("p14 out does not matter", x.safe(), 4);
        perform(x, "A~");
        due("p14 dog", x.safe(), 5);
        perform(x, "A*");
        due("p14 lamp", x.safe(), 4);
        perform(x, ".CB");
        x.neighbour(1, 9, 9);
        due("p14 robbed by all", x.safe(), 6);
    }

    private static void stripped() {
        StolenApples x = new StolenApples();
        due("p15 nobody", x.stripped(1), 0);
        due("p15 below", x.stripped(0), OUTSIDE);
        due("p15 above", x.stripped(21), OUTSIDE);
        x = six(5, 1);
        due("p15 five nights", x.stripped(1), 5);
        due("p15 three thefts of each", x.stripped(2), 3);
        due("p15 one of each", x.stripped(5), 1);
        x.frost(0);
        due("p15 frost does not matter", x.stripped(5), 1);
        x.frost(9);
        x.neighbour(0, 6, 1);
        due("p15 too much", x.stripped(1), NONE);
        x = six(0, 1);
        due("p15 all are bare", x.stripped(7), 0);
        x.neighbour(0, 20, 1);
        due("p15 many at one tree", x.stripped(4), 1);
        perform(x, "BA");
        due("p15 one has robbed him", x.stripped(4), NONE);
        due("p15 four others", x.stripped(5), 1);
        perform(x, "A~");
        due("p15 dog", x.stripped(20), NONE);
        x = new StolenApples();
        x.neighbour(0, 9, 1);
        x.neighbour(1, 0, 1);
        x.neighbour(2, 9, 1);
        perform(x, "ACCA");
        x.neighbour(0, 9, 1);
        x.neighbour(2, 9, 1);
        due("p15 B must go twice", x.stripped(9), 2);
    }

    private static void thefts() {
        StolenApples x = three();
        due("p16 no night", x.thefts(4, 0), 0);
        due("p16 one", x.thefts(4, 1), 3);
        due("p16 two", x.thefts(4, 2), 4);
        due("p16 no more than can be", x.thefts(4, 5), 4);
        due("p16 no more than wanted", x.thefts(20, 5), 2);
        due("p16 bag below", x.thefts(0, 1), OUTSIDE);
        due("p16 bag above", x.thefts(21, 1), OUTSIDE);
        due("p16 k below", x.thefts(1, -1), OUTSIDE);
        due("p16 k above", x.thefts(1, 6), OUTSIDE);
        x = six(99, 1);
        for (int k = 0; k <= 5; k++) due("p16 all", x.thefts(1, k), 6 * k);
        due("p16 all wanted", x.thefts(20, 5), 30);
    }

    private static void round() {
        StolenApples x = new StolenApples();
        due("p17 nobody", x.round(), NONE);
        x.neighbour(0, 9, 1);
        due("p17 alone", x.round(), NONE);
        x.neighbour(1, 9, 1);
        due("p17 two", x.round(), 2);
        perform(x, "AB");
        due("p17 robbed", x.round(), NONE);
        x = six(9, 1);
        due("p17 six", x.round(), 6);
        x.frost(0);
        due("p17 frost does not matter", x.round(), 6);
        x.frost(9);
        perform(x, "F~");
        due("p17 nobody may rob F", x.round(), 5);
        x.neighbour(4, 0, 1);
        due("p17 nor E", x.round(), 4);
    }

    private static void chain() {
        StolenApples x = three();
        due("p18 all three", x.chain(2, 0), 3);
        due("p18 straight", x.chain(0, 1), 2);
        due("p18 none", x.chain(0, 2), NONE);
        due("p18 one", x.chain(0, 0), UNKNOWN);
        due("p18 from unknown", x.chain(3, 0), UNKNOWN);
        due("p18 to unknown", x.chain(0, 3), UNKNOWN);
        due("p18 below", x.chain(-1, 0), UNKNOWN);
        due("p18 above", x.chain(0, 6), UNKNOWN);
        x = six(9, 1);
        due("p18 six", x.chain(3, 1), 6);
    }

    private static void exchange() {
        StolenApples x = three();
        due("p19 nothing is left", x.exchange(1, 2, 0), 0);
        due("p19 what is left", x.exchange(2, 1, 0), 7);
        due("p19 what the bag holds", x.exchange(0, 2, 1), 1);
        x.neighbour(1, 50, 20);
        due("p19 a full bag", x.exchange(0, 2, 1), 3);
        perform(x, "B~AB");
        x.frost(0);
        due("p19 whatever bars them", x.exchange(0, 2, 1), 3);
        due("p19 the first's tree", x.exchange(0, 1, 0), UNKNOWN);
        due("p19 the second's tree", x.exchange(0, 1, 1), UNKNOWN);
        due("p19 the two are one", x.exchange(0, 0, 1), UNKNOWN);
        due("p19 first", x.exchange(3, 0, 1), UNKNOWN);
        due("p19 second", x.exchange(0, 6, 1), UNKNOWN);
        due("p19 tree", x.exchange(0, 1, -1), UNKNOWN);
        due("p19 nothing is taken", x.state(1, 0), 50);
    }

    private static void seen() {
        StolenApples x = three();
        due("p20 unknown", x.seen(3, 0), UNKNOWN);
        due("p20 unknown before outside", x.seen(-1, 100), UNKNOWN);
        due("p20 below", x.seen(0, -1), OUTSIDE);
        due("p20 above", x.seen(0, 100), OUTSIDE);
        for (int i = 1; i <= 8; i++) due("p20 sight", x.seen(0, 99), i);
        due("p20 full", x.seen(0, 9), FULL);
        due("p20 outside before full", x.seen(0, 100), OUTSIDE);
        due("p20 unknown before full", x.seen(3, 1), UNKNOWN);
        due("p20 eight", x.told(5), 8);
    }

    private static void forget() {
        StolenApples x = three();
        due("p21 none", x.forget(), 0);
        x.seen(0, 1);
        x.seen(1, 1);
        due("p21 two", x.forget(), 2);
        due("p21 gone", x.told(5), 0);
        due("p21 all rows again", x.boots(0), 10);
    }

    private static void boots() {
        StolenApples x = new StolenApples();
        due("p22 nobody: one row", x.boots(0), 1);
        due("p22 nobody: in all", x.boots(2), 0);
        due("p22 below", x.boots(-1), OUTSIDE);
        due("p22 above", x.boots(3), OUTSIDE);
        x = three();
        due("p22 ten rows", x.boots(0), 10);
        due("p22 in some", x.boots(1), 7);
        due("p22 in all", x.boots(2), 0);
        x.seen(0, 0);
        due("p22 B was there", x.boots(2), 2);
        due("p22 four rows", x.boots(0), 4);
        x.seen(0, 1);
        due("p22 both can not be", x.boots(0), 0);
        due("p22 no rows: in some", x.boots(1), 0);
        due("p22 no rows: in all", x.boots(2), 0);
        x = six(99, 1);
        due("p22 all rows", x.boots(0), 46656);
        x.frost(0);
        due("p22 frost", x.boots(0), 1);
        x.frost(1);
        perform(x, "AB");
        due("p22 who was out stays at home", x.boots(1), 62);
        due("p22 nothing is done", x.state(1, 0), 98);
    }

    private static void look() {
        StolenApples x = new StolenApples();
        due("p23 nobody", x.look(0), NONE);
        due("p23 below", x.look(-1), OUTSIDE);
        due("p23 above", x.look(2), OUTSIDE);
        x = three();
        due("p23 tree", x.look(0), 1);
        due("p23 how many", x.look(1), 3);
        x.seen(1, 5);
        due("p23 not the one that was seen", x.look(0) == 1 ? 1 : 0, 0);
        x.forget();
        x.seen(0, 10);
        x.seen(1, 5);
        x.seen(2, 0);
        due("p23 all are seen", x.look(0), NONE);
        due("p23 all are seen: how many", x.look(1), NONE);
        x.forget();
        x.seen(0, 99);
        due("p23 no rows", x.look(0), NONE);
        x = six(0, 1);
        due("p23 of several the least", x.look(0), 0);
        due("p23 one row", x.look(1), 1);
    }

    private static void duel() {
        StolenApples x = three();
        due("p24 A begins", x.duel(0, 1, 3, 0), 999);
        due("p24 B begins", x.duel(1, 0, 3, 0), 1006);
        due("p24 B's own tree, too", x.duel(1, 0, 2, 1), 1);
        due("p24 no tree", x.duel(0, 1, 0, 0), 1000);
        due("p24 no tree to take", x.duel(0, 1, 0, 1), NONE);
        due("p24 one", x.duel(0, 0, 3, 0), UNKNOWN);
        due("p24 first", x.duel(3, 0, 3, 0), UNKNOWN);
        due("p24 second", x.duel(0, 3, 3, 0), UNKNOWN);
        due("p24 nobody's tree", x.duel(0, 1, 8, 0), UNKNOWN);
        due("p24 all bits", x.duel(0, 1, -1, 0), UNKNOWN);
        due("p24 beyond", x.duel(0, 1, 65, 0), UNKNOWN);
        due("p24 what", x.duel(0, 1, 3, 2), OUTSIDE);
        due("p24 what below", x.duel(0, 1, 3, -1), OUTSIDE);
        due("p24 unknown before outside", x.duel(0, 1, 8, 2), UNKNOWN);
        perform(x, "A~B~");
        x.frost(0);
        due("p24 whatever bars them", x.duel(0, 1, 3, 0), 999);
        x = six(10, 3);
        due("p24 of several the least", x.duel(4, 2, 56, 1), 3);
        due("p24 one tree more", x.duel(4, 2, 56, 0), 1003);
    }

    private static void caughtPart(String name, long[] got, long upper, long lower) {
        due(name + " upper", got[0], upper);
        due(name + " lower", got[1], lower);
    }

    private static long[] chance(StolenApples x, int n, int o, int t, int what) {
        return new long[] {x.caught(n, o, t, what, 0), x.caught(n, o, t, what, 1)};
    }

    private static void caught() {
        StolenApples x = three();
        caughtPart("p25 mean", chance(x, 1, 0, 5, 0), 11, 2);
        caughtPart("p25 mean of thirds", chance(x, 1, 0, 3, 0), 73, 10);
        caughtPart("p25 never", chance(x, 0, 1, 0, 0), 4, 1);
        caughtPart("p25 ever", chance(x, 0, 1, 10, 0), 0, 1);
        caughtPart("p25 more", chance(x, 0, 1, 4, 1), 3, 5);
        caughtPart("p25 more ever", chance(x, 1, 0, 7, 1), 1, 1);
        caughtPart("p25 never more", chance(x, 0, 1, 10, 1), 0, 1);
        due("p25 unknown", x.caught(3, 0, 1, 0, 0), LOST + UNKNOWN);
        due("p25 other unknown", x.caught(0, 3, 1, 0, 0), LOST + UNKNOWN);
        due("p25 one", x.caught(0, 0, 1, 0, 0), LOST + UNKNOWN);
        due("p25 unknown before outside", x.caught(0, 0, 11, 0, 0), LOST + UNKNOWN);
        due("p25 t above", x.caught(0, 1, 11, 0, 0), LOST + OUTSIDE);
        due("p25 t below", x.caught(0, 1, -1, 0, 0), LOST + OUTSIDE);
        due("p25 what", x.caught(0, 1, 1, 2, 0), LOST + OUTSIDE);
        due("p25 what below", x.caught(0, 1, 1, -1, 0), LOST + OUTSIDE);
        due("p25 part", x.caught(0, 1, 1, 0, 2), LOST + OUTSIDE);
        due("p25 part below", x.caught(0, 1, 1, 0, -1), LOST + OUTSIDE);
        due("p25 bare", x.caught(0, 2, 1, 0, 0), LOST + STATE);
        due("p25 outside before state", x.caught(0, 2, 11, 0, 0), LOST + OUTSIDE);
        x.frost(0);
        due("p25 frost", x.caught(0, 1, 1, 0, 0), LOST + STATE);
        x.frost(10);
        due("p25 nothing is done", x.state(1, 1), 0);
        perform(x, "BA.");
        x.neighbour(2, 9, 3);
        caughtPart("p25 heap 10 and 9 less 9: not more", chance(x, 1, 2, 3, 1), 7, 10);
        caughtPart("p25 heap 10", chance(x, 1, 2, 1, 0), 181, 10);
        perform(x, "BC");
        due("p25 out", x.caught(1, 2, 1, 0, 0), LOST + STATE);
    }

    private static void moons() {
        StolenApples x = three();
        due("p26 over", x.moons(0, 7), 3);
        due("p26 not over", x.moons(2, 7), 2);
        due("p26 none", x.moons(1, 0), 0);
        due("p26 sixty", x.moons(1, 60), 20);
        due("p26 below", x.moons(0, -1), OUTSIDE);
        due("p26 above", x.moons(0, 61), OUTSIDE);
        due("p26 unknown", x.moons(3, 5), UNKNOWN);
        due("p26 unknown before outside", x.moons(6, 99), UNKNOWN);
        perform(x, "AB");
        due("p26 the smallest heap", x.moons(1, 7), 3);
        due("p26 the greatest heap", x.moons(0, 8), 2);
    }

    private static void year() {
        StolenApples x = three();
        due("p27 heaps", x.year(77, 99, 0), 10);
        due("p27 apples", x.year(77, 99, 1), 5);
        due("p27 how often", x.year(77, 99, 2), 2);
        due("p27 nothing is done", x.state(1, 1), 0);
        due("p27 frost", x.told(2), 10);
        due("p27 seed below", x.year(-1, 1, 0), OUTSIDE);
        due("p27 seed above", x.year(10000, 1, 0), OUTSIDE);
        due("p27 m below", x.year(0, 0, 0), OUTSIDE);
        due("p27 m above", x.year(0, 100, 0), OUTSIDE);
        due("p27 what below", x.year(0, 1, -1), OUTSIDE);
        due("p27 what above", x.year(0, 1, 3), OUTSIDE);
        due("p27 least", x.year(0, 1, 1), 15);
        due("p27 most", x.year(9999, 99, 2) >= 0 ? 1 : 0, 1);
        // 75 * 2 + 74 = 224: the night ends; 75 * 224 + 74 = 16874: C's dog.
        perform(x, "AB");
        due("p27 from heaps as they are", x.year(2, 2, 0), 4);
        due("p27 earlier robbing does not count", x.year(2, 2, 2), 0);
    }

    private static void image() {
        StolenApples x = three();
        due("p28 first", x.image(0), 1);
        due("p28 second", x.image(1), 1);
        due("p28 again", x.image(0), 1);
        due("p28 below", x.image(-1), OUTSIDE);
        due("p28 above", x.image(2), OUTSIDE);
        x = new StolenApples();
        due("p28 of nobody", x.image(1), 1);
        x.neighbour(0, 1, 1);
        due("p28 other one was not kept", x.restore(0), STATE);
        due("p28 back to nobody", x.restore(1), 1);
        due("p28 nobody", x.told(1), 0);
    }

    private static void restore() {
        StolenApples x = three();
        due("p29 not kept", x.restore(0), STATE);
        due("p29 below", x.restore(-1), OUTSIDE);
        due("p29 above", x.restore(2), OUTSIDE);
        perform(x, "A~B*AB");
        x.seen(0, 3);
        x.frost(4);
        x.image(0);
        x.image(1);
        perform(x, "A~B*.$");
        x.move(0);
        x.forget();
        x.seen(1, 9);
        x.seen(1, 8);
        write(x, "A.");
        for (int n = 0; n < 2; n++) {
            due("p29 kept", x.restore(n), 1);
            due("p29 pad stays", x.told(0), 2);
            due("p29 there", x.told(1), 7);
            due("p29 frost", x.told(2), 4);
            due("p29 dogs", x.told(3), 1);
            due("p29 lamps", x.told(4), 2);
            due("p29 sights", x.told(5), 1);
            due("p29 bag", x.told(10), 4);
            due("p29 apples", x.state(1, 0), 1);
            due("p29 heap", x.state(0, 1), 4);
            due("p29 out", x.state(0, 2), 1);
            due("p29 robbed", x.state(0, 3), 2);
        }
        due("p29 whom he robbed last", whyOf(x, "A!"), NONE);
        due("p29 sight is as it was", x.boots(0), 0);
        perform(x, "A!");
        due("p29 changed since", x.state(0, 1), 0);
        x.restore(0);
        due("p29 the image is not changed", x.state(0, 1), 4);
    }

    private static void told() {
        StolenApples x = three();
        write(x, "AB");
        x.seen(0, 1);
        due("p30 signs", x.told(0), 2);
        due("p30 neighbours", x.told(1), 7);
        due("p30 frost", x.told(2), 10);
        perform(x, "C~A*");
        due("p30 dogs", x.told(3), 4);
        due("p30 lamps", x.told(4), 1);
        due("p30 sights", x.told(5), 1);
        due("p30 A's bag", x.told(10), 4);
        due("p30 B's bag", x.told(11), 20);
        due("p30 C's bag", x.told(12), 3);
        due("p30 D is not there", x.told(13), OUTSIDE);
        for (int what : new int[] {-1, 6, 9, 16, Integer.MIN_VALUE, Integer.MAX_VALUE, -2147483638}) {
            due("p30 outside", x.told(what), OUTSIDE);
        }
    }
}
