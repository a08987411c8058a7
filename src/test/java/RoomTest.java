import java.lang.management.ManagementFactory;

/**
 * All calls of one run live in one room: an object makes its rows once, when it is made, and a call makes
 * nothing, but for an image the first time that it is kept.
 */
public final class RoomTest extends Checks {
    private static final com.sun.management.ThreadMXBean THREADS =
            (com.sun.management.ThreadMXBean) ManagementFactory.getThreadMXBean();
    /** What the reading itself may make. */
    private static final long SLACK = 512;
    private static final long MOST_OF_AN_OBJECT = 8192;
    private static final long MOST_OF_AN_IMAGE = 1024;

    private static long sink;

    public static void main(String[] args) {
        for (int i = 0; i < 50; i++) {
            StolenApples x = new StolenApples();
            useAll(x, i);
        }
        long before = made();
        StolenApples x = six(50, 3);
        long bytes = made() - before;
        within("an object", bytes, MOST_OF_AN_OBJECT);
        before = made();
        x.image(0);
        x.image(1);
        bytes = made() - before;
        within("two images", bytes, 2 * MOST_OF_AN_IMAGE + SLACK);
        for (int round = 0; round < 9; round++) {
            before = made();
            useAll(x, round);
            bytes = made() - before;
            within("every call once and again", bytes, SLACK);
        }
        holds("answers were given", sink != 0);
        end();
    }

    private static long made() {
        return THREADS.getThreadAllocatedBytes(Thread.currentThread().getId());
    }

    private static void within(String what, long bytes, long most) {
        holds(what + " made " + bytes + " bytes", bytes <= most);
    }

    /** Every call of the face, some fifty in all. */
    private static void useAll(StolenApples x, int i) {
        int n = i % 6;
        int other = (n + 1) % 6;
        sink += x.neighbour(n, 50, 3) + x.neighbour(other, 40, 2) + x.frost(20) + x.move(6) + x.move(n);
        sink += x.neighbour(n, 50, 3) + x.wipe() + x.say('$') + x.say('A' + n) + x.fault();
        sink += x.say('A' + other) + x.judge(0) + x.judge(1) + x.behind(n, 1) + x.done() + x.state(n, 3);
        sink += x.trees(0) + x.trees(1) + x.trees(2) + x.may(other) + x.safe();
        sink += x.stripped(5) + x.stripped(20) + x.thefts(2, 3) + x.round() + x.chain(n, other);
        sink += x.exchange(n, other, (n + 2) % 6) + x.seen(n, 50) + x.boots(0) + x.boots(1) + x.boots(2);
        sink += x.look(0) + x.look(1) + x.forget() + x.duel(n, other, x.told(1), 0) + x.duel(n, other, 1 << n, 1);
        sink += x.caught(other, n, 5, 0, 0) + x.moons(n, 17) + x.year(i, 99, 0) + x.year(i, 99, 2);
        sink += x.image(0) + x.image(1) + x.restore(0) + x.restore(1) + x.told(2) + x.told(10 + n);
    }
}
