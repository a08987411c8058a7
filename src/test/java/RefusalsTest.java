import java.lang.reflect.InvocationTargetException;
import java.lang.reflect.Method;
import java.util.ArrayList;
import java.util.Arrays;
import java.util.List;
import java.util.Map;
import java.util.Set;
import java.util.TreeMap;

/**
 * "Calls that are refused answer, the first of these that fits .. They change nothing": every call, with
 * numbers on, beside and far off its limits, in lands of all kinds. What is answered is held against the
 * slow model; and a land on which a call was refused, or which was only asked, must answer all later calls
 * as its twin does, on which there was no such call.
 */
public final class RefusalsTest extends Checks {
    private static final Set<String> CHANGING = Set.of(
            "neighbour", "move", "frost", "say", "wipe", "done", "seen", "forget", "image", "restore");
    /** Their rows are tried out one by one in the slow model, which takes long; ModelTest asks them. */
    private static final Set<String> SLOW = Set.of("boots", "look");

    /** Of each call what is taken, beside which each number, and each two, are put wrong. */
    private static final int[][] USUAL = {{0, 5, 3}, {1, 0, 0, 1, 0}, {2, 1, 0, 0, 0}};
    private static final int[] HOSTILE = {
        Integer.MIN_VALUE, -2147483638, -7, -6, -5, -4, -3, -2, -1, 0, 1, 2, 3, 4, 5, 6, 8, 9, 10, 11, 15, 16, 20, 21,
        30, 31, 32, 33, 37, 60, 61, 63, 64, 65, 99, 100, 126, 127, 256, 9999, 10000, 65536, Integer.MAX_VALUE
    };
    private static final int[] EDGES = {Integer.MIN_VALUE, -1, 0, 1, 2, 6, 11, 100, Integer.MAX_VALUE};

    /** How a land is made: calls, and texts to be written. */
    private static final String[] LANDS = {
        "",
        "neighbour 5 99 20",
        "neighbour 0 10 4, neighbour 1 5 20, neighbour 2 0 3",
        "neighbour 0 10 4, neighbour 1 5 20, neighbour 2 0 3, write AB.C, seen 0 6, image 0",
        "neighbour 0 10 4, neighbour 1 5 20, neighbour 2 9 3, write A~B*AB, done, image 1, write CA.BA$, "
            + "seen 0 10, seen 1 1, seen 1 1, seen 1 1, seen 1 1, seen 1 1, seen 1 1, seen 2 9",
        "neighbour 0 9 1, neighbour 1 8 2, neighbour 2 7 3, neighbour 3 6 4, neighbour 4 5 5, neighbour 5 4 6, "
            + "write ABBCC~D*E~F*., done, image 0, write DA, done, image 1, write ABAA",
        "neighbour 0 9 1, neighbour 3 6 4, neighbour 5 4 6, write ADDA, done, move 3, frost 0, write A*F~, "
            + "seen 0 9, image 0, image 1",
        "neighbour 0 99 20, neighbour 1 99 20, frost 30, write " + "$".repeat(60),
        "neighbour 1 50 20, neighbour 4 40 9, write BE, done, neighbour 4 95 9, write B!"
    };

    private static final Map<String, Method> FAST = methodsOf(StolenApples.class);
    private static final Map<String, Method> MODEL = methodsOf(SlowOrchard.class);

    public static void main(String[] args) {
        sentence("They change nothing.");
        for (String land : LANDS) {
            List<Long> untouched = laterAnswers(made(land));
            for (String name : FAST.keySet()) {
                for (int[] numbers : numbersFor(FAST.get(name).getParameterCount())) {
                    tryCall(land, untouched, name, numbers);
                }
            }
        }
        end();
    }

    private static Map<String, Method> methodsOf(Class<?> type) {
        Map<String, Method> map = new TreeMap<>();
        for (Method m : type.getDeclaredMethods()) {
            boolean numbersOnly = Arrays.stream(m.getParameterTypes()).allMatch(t -> t == int.class);
            if (numbersOnly && !java.lang.reflect.Modifier.isPrivate(m.getModifiers())) map.put(m.getName(), m);
        }
        return map;
    }

    private static long ask(Object land, String name, int... numbers) {
        Method m = (land instanceof StolenApples ? FAST : MODEL).get(name);
        Object[] boxed = Arrays.stream(numbers).boxed().toArray();
        try {
            return ((Number) m.invoke(land, boxed)).longValue();
        } catch (InvocationTargetException e) {
            throw new AssertionError(name + Arrays.toString(numbers) + " threw", e.getCause());
        } catch (IllegalAccessException e) {
            throw new AssertionError(e);
        }
    }

    private static Object build(Object land, String calls) {
        for (String call : calls.isEmpty() ? new String[0] : calls.split(", ")) {
            String[] part = call.split(" ");
            if (part[0].equals("write")) {
                ask(land, "wipe");
                for (char c : part[1].toCharArray()) ask(land, "say", c);
            } else {
                int[] numbers = new int[part.length - 1];
                for (int i = 1; i < part.length; i++) numbers[i - 1] = Integer.parseInt(part[i]);
                ask(land, part[0], numbers);
            }
        }
        return land;
    }

    private static StolenApples made(String calls) {
        return (StolenApples) build(new StolenApples(), calls);
    }

    private static List<int[]> numbersFor(int count) {
        List<int[]> list = new ArrayList<>();
        if (count == 0) {
            list.add(new int[0]);
            return list;
        }
        for (int[] usual : USUAL) {
            for (int i = 0; i < count; i++) {
                for (int v : HOSTILE) list.add(with(usual, count, i, v, i, v));
                for (int j = i + 1; j < count; j++) {
                    for (int v : EDGES) for (int w : EDGES) list.add(with(usual, count, i, v, j, w));
                }
            }
        }
        return list;
    }

    private static int[] with(int[] usual, int count, int i, int v, int j, int w) {
        int[] numbers = Arrays.copyOf(usual, count);
        numbers[i] = v;
        numbers[j] = w;
        return numbers;
    }

    private static void tryCall(String land, List<Long> untouched, String name, int[] numbers) {
        StolenApples x = made(land);
        long got = ask(x, name, numbers);
        String told = name + Arrays.toString(numbers) + " on a land of '" + land + "'";
        boolean refused = isRefusal(got);
        if (!SLOW.contains(name)) due(told, got, ask(build(new SlowOrchard(), land), name, numbers));
        if (refused || !CHANGING.contains(name)) {
            holds(told + " leaves all as it was", laterAnswers(x).equals(untouched));
        }
    }

    private static boolean isRefusal(long answer) {
        long plain = answer < LOST / 2 ? answer - LOST : answer;
        return plain <= -1 && plain >= -5;
    }

    /** What later calls show of all that is kept: some 330 answers, so that no object is asked more than 512 times. */
    private static List<Long> laterAnswers(StolenApples x) {
        List<Long> list = new ArrayList<>();
        seeLand(x, list);
        list.add((long) x.look(0));
        list.add((long) x.fault());
        list.add((long) x.judge(0));
        list.add((long) x.judge(1));
        for (int n = 0; n < 6; n++) for (int what = 0; what < 4; what++) list.add((long) x.behind(n, what));
        for (int what = 0; what < 3; what++) list.add((long) x.year(77, 99, what));
        list.add((long) x.say('A'));
        list.add((long) x.fault());
        list.add((long) x.done());
        list.add((long) x.wipe());
        seeLand(x, list);
        seeWhomTheyRobbed(x, list);
        for (int image = 0; image < 2; image++) {
            list.add((long) x.restore(image));
            seeLand(x, list);
            seeWhomTheyRobbed(x, list);
        }
        return list;
    }

    private static void seeLand(StolenApples x, List<Long> list) {
        for (int what = 0; what <= 5; what++) list.add((long) x.told(what));
        for (int n = 0; n < 6; n++) {
            list.add((long) x.told(10 + n));
            for (int what = 0; what < 4; what++) list.add((long) x.state(n, what));
        }
        list.add((long) x.boots(0));
    }

    /** All who can be are caught, in one text; the trees tell whom each robbed last. */
    private static void seeWhomTheyRobbed(StolenApples x, List<Long> list) {
        StringBuilder can = new StringBuilder();
        for (int n = 0; n < 6; n++) {
            if (x.state(n, 2) == 1) {
                String text = (char) ('A' + n) + "!";
                if (whyOf(x, text) == NONE) can.append(text);
                else list.add(-100L - n);
            }
        }
        list.add((long) perform(x, can.toString()));
        for (int n = 0; n < 6; n++) list.add((long) x.state(n, 0));
    }
}
