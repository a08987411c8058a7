import java.util.function.Supplier;

/** What the tests share: counting of answers, and lands that are soon made. */
abstract class Checks {
    static final int NONE = -6, UNKNOWN = -1, OUTSIDE = -2, STATE = -3, FULL = -4, NO = -5;
    static final long LOST = -1000000000000000000L;
    /** Numbers that no call takes; 32 and its like shift a bit back to a neighbour's place. */
    static final int[] FAR = {
        Integer.MIN_VALUE, Integer.MIN_VALUE + 1, -65536, -256, -64, -33, -32, -31, -27,
        65536, 65537, 1 << 30, Integer.MAX_VALUE - 1, Integer.MAX_VALUE
    };
    /** What is no neighbour's number, on each side, near and far, and what a shift would wrap round. */
    static final int[] NOBODY = {
        -1, 6, Integer.MIN_VALUE, Integer.MAX_VALUE, -32, -27, 7, 31, 32, 37, 64, 256, 65536
    };

    private static int wrong = 0;
    private static int looked = 0;
    private static int sentences = 0;
    private static String words = "";

    /** One call of the class, with one number left open. */
    interface Asked {
        long of(StolenApples x, int number);
    }

    /** The document's words that the next answers hold to. */
    static void sentence(String text) {
        sentences++;
        words = text;
    }

    static void due(String what, long got, long want) {
        looked++;
        if (got != want) {
            wrong++;
            String why = words.isEmpty() ? "" : " (\"" + words + "\")";
            System.out.println(what + " answered " + got + ", due is " + want + why);
        }
    }

    static void holds(String what, boolean so) {
        due(what, so ? 1 : 0, 1);
    }

    static void end() {
        String of = sentences == 0 ? "" : " of " + sentences + " sentences";
        System.out.println(looked + " answers" + of + " looked at, " + wrong + " not as due");
        if (wrong != 0) System.exit(1);
    }

    /** All from least to most are taken; just beyond on each side, and far off, none is. */
    static void range(String what, int least, int most, long refusal, Supplier<StolenApples> made, Asked call) {
        for (int v = least; v <= most; v++) {
            long got = call.of(made.get(), v);
            holds(what + " takes " + v + ", answered " + got, got != refusal);
        }
        due(what + " of " + (least - 1), call.of(made.get(), least - 1), refusal);
        due(what + " of " + (most + 1), call.of(made.get(), most + 1), refusal);
        for (int v : FAR) due(what + " of " + v, call.of(made.get(), v), refusal);
    }

    /** A (10 apples, bag 4), B (5, 20), C (0, 3). */
    static StolenApples three() {
        StolenApples x = new StolenApples();
        x.neighbour(0, 10, 4);
        x.neighbour(1, 5, 20);
        x.neighbour(2, 0, 3);
        return x;
    }

    static StolenApples six(int apples, int bag) {
        StolenApples x = new StolenApples();
        for (int n = 0; n < 6; n++) x.neighbour(n, apples, bag);
        return x;
    }

    /** A land of the first ones, each with so many apples and so great a bag: {apples, bag}. */
    static StolenApples land(int[]... those) {
        StolenApples x = new StolenApples();
        for (int n = 0; n < those.length; n++) x.neighbour(n, those[n][0], those[n][1]);
        return x;
    }

    static int[] one(int apples, int bag) {
        return new int[] {apples, bag};
    }

    static void write(StolenApples x, String text) {
        x.wipe();
        for (int i = 0; i < text.length(); i++) x.say(text.charAt(i));
    }

    static int perform(StolenApples x, String text) {
        write(x, text);
        return x.done();
    }

    /** Does what must be doable before a test begins. */
    static StolenApples after(StolenApples x, String text) {
        int acts = perform(x, text);
        holds("beforehand " + text + " can be", acts >= 0);
        return x;
    }

    static int faultOf(String text) {
        StolenApples x = new StolenApples();
        write(x, text);
        return x.fault();
    }

    static int whyOf(StolenApples x, String text) {
        write(x, text);
        return x.judge(1);
    }

    static int whichOf(StolenApples x, String text) {
        write(x, text);
        return x.judge(0);
    }
}
