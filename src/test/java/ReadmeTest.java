import java.io.IOException;
import java.lang.reflect.InvocationTargetException;
import java.lang.reflect.Method;
import java.lang.reflect.Modifier;
import java.nio.file.Files;
import java.nio.file.Path;
import java.util.ArrayList;
import java.util.List;
import java.util.Set;
import java.util.TreeSet;
import java.util.regex.Matcher;
import java.util.regex.Pattern;
import java.util.stream.Stream;

/** What README.md shows of calls and answers is so, each call is shown, and the tests that it names are there. */
public final class ReadmeTest extends Checks {
    private static final Pattern MADE = Pattern.compile("StolenApples x = new StolenApples\\(\\);");
    private static final Pattern CALL = Pattern.compile("x\\.(\\w+)\\((.*)\\);\\s*// (-?\\d+|[A-Z]+(?: \\+ [A-Z]+)?)(?::.*)?");
    private static final Pattern TEXT = Pattern.compile("for \\(char sign : \"(.*)\"\\.toCharArray\\(\\)\\) x\\.say\\(sign\\);.*");

    private static final Set<String> shown = new TreeSet<>();
    private static StolenApples x;
    private static int calls;

    public static void main(String[] args) throws Exception {
        Path root = Path.of(args.length > 0 ? args[0] : ".");
        String readme = Files.readString(root.resolve("README.md"));
        for (String line : linesOfJava(readme)) tryLine(line.trim());
        for (Method m : StolenApples.class.getDeclaredMethods()) {
            if (Modifier.isPublic(m.getModifiers())) holds(m.getName() + " is shown", shown.contains(m.getName()));
        }
        namesTheTests(root, readme);
        end();
    }

    private static List<String> linesOfJava(String readme) {
        List<String> lines = new ArrayList<>();
        Matcher block = Pattern.compile("(?s)```java\n(.*?)```").matcher(readme);
        while (block.find()) lines.addAll(block.group(1).lines().toList());
        holds("there is an example", !lines.isEmpty());
        return lines;
    }

    private static void tryLine(String line) throws ReflectiveOperationException {
        Matcher call = CALL.matcher(line);
        Matcher text = TEXT.matcher(line);
        if (line.isEmpty()) return;
        if (MADE.matcher(line).matches()) {
            x = new StolenApples();
            calls = 0;
        } else if (text.matches()) {
            for (char sign : text.group(1).toCharArray()) {
                holds(line + " has room", x.say(sign) > 0);
                calls++;
            }
        } else if (call.matches()) {
            due(line, answer(call.group(1), call.group(2)), number(call.group(3)));
            shown.add(call.group(1));
            calls++;
        } else {
            holds("a line that this test can read: " + line, false);
        }
        holds("no object is used for more than 512 calls", calls <= 512);
    }

    private static long answer(String name, String numbers) throws ReflectiveOperationException {
        String[] parts = numbers.isBlank() ? new String[0] : numbers.split(",\\s*");
        Class<?>[] types = new Class<?>[parts.length];
        Object[] values = new Object[parts.length];
        for (int i = 0; i < parts.length; i++) {
            types[i] = int.class;
            values[i] = parts[i].startsWith("'") ? parts[i].charAt(1) : (int) number(parts[i]);
            if (values[i] instanceof Character sign) values[i] = (int) sign;
        }
        try {
            return ((Number) StolenApples.class.getMethod(name, types).invoke(x, values)).longValue();
        } catch (InvocationTargetException e) {
            throw new AssertionError(name + " threw", e.getCause());
        }
    }

    /** A number, the name of a constant, or two names put together. */
    private static long number(String word) throws ReflectiveOperationException {
        if (word.matches("-?\\d+")) return Long.parseLong(word);
        long sum = 0;
        for (String name : word.split(" \\+ ")) sum += ((Number) StolenApples.class.getField(name).get(null)).longValue();
        return sum;
    }

    private static void namesTheTests(Path root, String readme) throws IOException {
        Set<String> there = new TreeSet<>();
        try (Stream<Path> files = Files.list(root.resolve("src/test/java"))) {
            files.map(f -> f.getFileName().toString()).filter(f -> f.endsWith("Test.java"))
                    .forEach(f -> there.add(f.substring(0, f.length() - 5)));
        }
        Set<String> named = new TreeSet<>();
        Matcher name = Pattern.compile("`(\\w+Test)`").matcher(readme);
        while (name.find()) named.add(name.group(1));
        holds("the tests that are there, " + there + ", are those that are named, " + named, there.equals(named));
        holds("how to run them is said", readme.contains(".ci/run") && Files.isExecutable(root.resolve(".ci/run")));
    }
}
