import java.util.Random;

/** Random runs of 512 calls on one object, each answer held against the slow model's; the seeds are fixed. */
public final class ModelTest {
    private static final int RUNS = 400;
    private static final int CALLS = 512;
    private static final int[] ODD = {Integer.MIN_VALUE, Integer.MAX_VALUE, -2147483638, -7, -6, -1, 6, 7, 64, 100};

    private final Random random;
    private final StolenApples fast = new StolenApples();
    private final SlowOrchard slow = new SlowOrchard();
    private final StringBuilder story = new StringBuilder();
    private final int mostApples;
    private int calls;
    private int brute;

    private ModelTest(int seed) {
        random = new Random(seed);
        mostApples = new int[] {3, 12, 30, 99}[seed % 4];
    }

    public static void main(String[] args) {
        int wrong = 0;
        for (int run = 0; run < RUNS && wrong < 5; run++) {
            if (!new ModelTest(run).agrees()) wrong++;
        }
        System.out.println(wrong == 0 ? "the class and the slow model agree" : wrong + " runs differ");
        if (wrong != 0) System.exit(1);
    }

    private boolean agrees() {
        while (calls < CALLS) {
            if (random.nextInt(6) == 0) {
                String text = nights();
                for (int i = 0; i < text.length() && calls < CALLS; i++) {
                    int sign = text.charAt(i);
                    if (!same("say(" + sign + ")", fast.say(sign), slow.say(sign))) return false;
                }
            } else if (!call(random.nextInt(40))) {
                return false;
            }
        }
        return true;
    }

    private boolean same(String call, long got, long want) {
        calls++;
        story.append(call).append(' ');
        if (got == want) return true;
        System.out.println(story + "answered " + got + ", due is " + want);
        return false;
    }

    /** A few acts, most of which can be. */
    private String nights() {
        StringBuilder text = new StringBuilder();
        int acts = 1 + random.nextInt(5);
        for (int i = 0; i < acts; i++) {
            char a = (char) ('A' + random.nextInt(6));
            switch (random.nextInt(12)) {
                case 0: case 1: text.append('.'); break;
                case 2: text.append(random.nextInt(3) == 0 ? '$' : '.'); break;
                case 3: text.append(a).append('*'); break;
                case 4: text.append(a).append('~'); break;
                case 5: text.append(a).append('!'); break;
                case 6:
                    char b = (char) ('A' + random.nextInt(6));
                    text.append(a).append(b).append(a).append('!');
                    break;
                default: text.append(a).append((char) ('A' + random.nextInt(6))); break;
            }
        }
        return text.toString();
    }

    private int n() {
        return random.nextInt(20) == 0 ? odd() : random.nextInt(6);
    }

    private int odd() {
        return ODD[random.nextInt(ODD.length)];
    }

    /** low to high, and now and then just beyond, or far off. */
    private int number(int low, int high) {
        int kind = random.nextInt(30);
        if (kind == 0) return low - 1;
        if (kind == 1) return high + 1;
        if (kind == 2) return odd();
        if (kind == 3) return low;
        if (kind == 4) return high;
        return low + random.nextInt(high - low + 1);
    }

    private int apples() {
        return random.nextInt(8) == 0 ? number(0, 99) : random.nextInt(mostApples + 1);
    }

    private boolean call(int which) {
        int a = n(), b = n(), c = n();
        switch (which) {
            case 0: case 1: case 2: {
                int apples = apples(), bag = number(1, random.nextBoolean() ? 20 : 4);
                return same("neighbour(" + a + ", " + apples + ", " + bag + ")",
                        fast.neighbour(a, apples, bag), slow.neighbour(a, apples, bag));
            }
            case 3: {
                if (random.nextInt(3) != 0) return true;
                return same("move(" + a + ")", fast.move(a), slow.move(a));
            }
            case 4: {
                int f = number(0, 30);
                return same("frost(" + f + ")", fast.frost(f), slow.frost(f));
            }
            case 5: {
                int sign = random.nextBoolean() ? number(33, 126) : "ABCDEFG*~!.$".charAt(random.nextInt(12));
                return same("say(" + sign + ")", fast.say(sign), slow.say(sign));
            }
            case 6: return same("wipe()", fast.wipe(), slow.wipe());
            case 7: return same("fault()", fast.fault(), slow.fault());
            case 8: case 9: {
                int what = number(0, 1);
                return same("judge(" + what + ")", fast.judge(what), slow.judge(what));
            }
            case 10: case 11: {
                if (!same("done()", fast.done(), slow.done())) return false;
                boolean over = calls == CALLS || random.nextInt(3) != 0;
                return over || same("wipe()", fast.wipe(), slow.wipe());
            }
            case 12: {
                int what = number(0, 3);
                return same("state(" + a + ", " + what + ")", fast.state(a, what), slow.state(a, what));
            }
            case 13: case 14: {
                int what = number(0, 3);
                return same("behind(" + a + ", " + what + ")", fast.behind(a, what), slow.behind(a, what));
            }
            case 15: {
                int what = number(0, 2);
                return same("trees(" + what + ")", fast.trees(what), slow.trees(what));
            }
            case 16: return same("may(" + a + ")", fast.may(a), slow.may(a));
            case 17: return same("safe()", fast.safe(), slow.safe());
            case 18: case 19: {
                int bag = number(1, 20);
                return same("stripped(" + bag + ")", fast.stripped(bag), slow.stripped(bag));
            }
            case 20: case 21: {
                int bag = number(1, 20), k = number(0, 5);
                return same("thefts(" + bag + ", " + k + ")", fast.thefts(bag, k), slow.thefts(bag, k));
            }
            case 22: return same("round()", fast.round(), slow.round());
            case 23: return same("chain(" + a + ", " + b + ")", fast.chain(a, b), slow.chain(a, b));
            case 24: return same("exchange(" + a + ", " + b + ", " + c + ")",
                    fast.exchange(a, b, c), slow.exchange(a, b, c));
            case 25: case 26: return sight(a);
            case 27: return same("forget()", fast.forget(), slow.forget());
            default: return laterCall(which, a, b);
        }
    }

    /** Often a number that can be: what is there now, or less a bag. */
    private boolean sight(int a) {
        int count = apples();
        if (random.nextInt(4) != 0 && slow.state(a, 0) >= 0) {
            count = slow.state(a, 0);
            int bag = slow.told(10 + random.nextInt(6));
            if (random.nextBoolean() && bag > 0) count = Math.max(0, count - bag);
        }
        return same("seen(" + a + ", " + count + ")", fast.seen(a, count), slow.seen(a, count));
    }

    private boolean laterCall(int which, int a, int b) {
        switch (which) {
            case 28: case 29: {
                if (brute++ > 12) return true;
                int what = number(0, 2);
                return same("boots(" + what + ")", fast.boots(what), slow.boots(what));
            }
            case 30: {
                if (brute++ > 12) return true;
                int what = number(0, 1);
                return same("look(" + what + ")", fast.look(what), slow.look(what));
            }
            case 31: case 32: {
                int set = random.nextInt(12) == 0 ? odd() : random.nextInt(64);
                if (random.nextBoolean()) set &= slow.told(1);
                int what = number(0, 1);
                return same("duel(" + a + ", " + b + ", " + set + ", " + what + ")",
                        fast.duel(a, b, set, what), slow.duel(a, b, set, what));
            }
            case 33: case 34: {
                int t = number(0, 10), what = number(0, 1), part = number(0, 1);
                return same("caught(" + a + ", " + b + ", " + t + ", " + what + ", " + part + ")",
                        fast.caught(a, b, t, what, part), slow.caught(a, b, t, what, part));
            }
            case 35: {
                int m = number(0, 60);
                return same("moons(" + a + ", " + m + ")", fast.moons(a, m), slow.moons(a, m));
            }
            case 36: {
                int seed = number(0, 9999), m = number(1, 99), what = number(0, 2);
                return same("year(" + seed + ", " + m + ", " + what + ")",
                        fast.year(seed, m, what), slow.year(seed, m, what));
            }
            case 37: {
                int i = number(0, 1);
                return same("image(" + i + ")", fast.image(i), slow.image(i));
            }
            case 38: {
                int i = number(0, 1);
                return same("restore(" + i + ")", fast.restore(i), slow.restore(i));
            }
            default: {
                int what = random.nextBoolean() ? number(0, 5) : number(10, 15);
                return same("told(" + what + ")", fast.told(what), slow.told(what));
            }
        }
    }
}
