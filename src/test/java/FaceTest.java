import java.io.IOException;
import java.lang.reflect.Constructor;
import java.lang.reflect.Field;
import java.lang.reflect.Method;
import java.lang.reflect.Modifier;
import java.nio.file.Files;
import java.nio.file.Path;
import java.util.ArrayList;
import java.util.List;
import java.util.Set;
import java.util.TreeSet;
import java.util.regex.Matcher;
import java.util.regex.Pattern;

/** The public face is the document's and no more, and the source keeps to rules that a text can show. */
public final class FaceTest {
    private static final String[] FACE = {
        "int neighbour(int,int,int)", "int move(int)", "int frost(int)", "int say(int)", "int wipe()",
        "int fault()", "int judge(int)", "int done()", "int state(int,int)", "int behind(int,int)",
        "int trees(int)", "int may(int)", "int safe()", "int stripped(int)", "int thefts(int,int)",
        "int round()", "int chain(int,int)", "int exchange(int,int,int)", "int seen(int,int)",
        "int forget()", "int boots(int)", "int look(int)", "int duel(int,int,int,int)",
        "long caught(int,int,int,int,int)", "int moons(int,int)", "int year(int,int,int)",
        "int image(int)", "int restore(int)", "int told(int)"
    };
    private static final Set<String> CONSTANTS =
            Set.of("NONE", "UNKNOWN", "OUTSIDE", "STATE", "FULL", "NO", "LOST");
    private static final String[] RULED_OUT = {
        "\\bcatch\\s*\\(", "\\btry\\s*\\{", "\\bfinally\\b", "->", "::", "\\bsynchronized\\b", "\\bassert\\b",
        "\\bpackage\\b", "Exact\\s*\\(", "\\bRandom\\b", "\\bThread\\b", "currentTimeMillis", "nanoTime",
        "hashCode", "\\btoString\\b", "\\bthrow\\b", "import (?!java\\.util\\.Arrays;)", "while\\s*\\(true"
    };
    private static final int MOST_CLASSES = 12, MOST_FIELDS = 20, MOST_LINES = 60;
    private static final List<String> wrong = new ArrayList<>();

    public static void main(String[] args) throws IOException {
        members();
        noNameTwice(StolenApples.class);
        sizes();
        source(Path.of(args.length > 0 ? args[0] : ".").resolve("src/main/java/StolenApples.java"));
        for (String line : wrong) System.out.println(line);
        System.out.println(wrong.isEmpty() ? "the face is the document's" : wrong.size() + " faults of the face");
        if (!wrong.isEmpty()) System.exit(1);
    }

    private static void members() {
        Class<?> c = StolenApples.class;
        if (c.getModifiers() != (Modifier.PUBLIC | Modifier.FINAL)) wrong.add("not public and final");
        Set<String> open = new TreeSet<>();
        for (Method m : c.getDeclaredMethods()) {
            if (Modifier.isPrivate(m.getModifiers())) continue;
            StringBuilder types = new StringBuilder();
            for (Class<?> t : m.getParameterTypes()) types.append(types.length() > 0 ? "," : "").append(t);
            open.add(m.getReturnType() + " " + m.getName() + "(" + types + ")");
            if (m.getModifiers() != Modifier.PUBLIC) wrong.add("modifiers of " + m.getName());
        }
        if (!open.equals(new TreeSet<>(Set.of(FACE)))) wrong.add("methods " + open);
        for (Constructor<?> k : c.getDeclaredConstructors()) {
            if (k.getModifiers() != Modifier.PUBLIC || k.getParameterCount() != 0) wrong.add("constructor " + k);
        }
        Set<String> constants = new TreeSet<>();
        for (Field f : c.getDeclaredFields()) {
            boolean fixed = Modifier.isFinal(f.getModifiers());
            if (Modifier.isStatic(f.getModifiers()) && !fixed) wrong.add("static state " + f);
            if (!Modifier.isPrivate(f.getModifiers())) constants.add(f.getName());
        }
        if (!constants.equals(new TreeSet<>(CONSTANTS))) wrong.add("constants " + constants);
    }

    /** No method of an inner class bears the name of a public one, so that none is taken for it. */
    private static void noNameTwice(Class<?> c) {
        Set<String> names = new TreeSet<>();
        for (String line : FACE) names.add(line.substring(line.indexOf(' ') + 1, line.indexOf('(')));
        for (Method m : c.getDeclaredMethods()) {
            boolean inner = c != StolenApples.class || Modifier.isPrivate(m.getModifiers());
            if (inner && names.contains(m.getName())) wrong.add("name twice " + m);
            if (m.getParameterCount() > 7) wrong.add("parameters " + m);
        }
        for (Class<?> d : c.getDeclaredClasses()) {
            if (!Modifier.isStatic(d.getModifiers())) wrong.add("not static " + d);
            noNameTwice(d);
        }
    }

    private static void sizes() {
        List<Class<?>> classes = new ArrayList<>(List.of(StolenApples.class.getDeclaredClasses()));
        classes.add(StolenApples.class);
        if (classes.size() > MOST_CLASSES) wrong.add("classes " + classes.size());
        for (Class<?> c : classes) {
            long fields = List.of(c.getDeclaredFields()).stream().filter(f -> !Modifier.isStatic(f.getModifiers())).count();
            if (fields > MOST_FIELDS) wrong.add("fields of " + c + ": " + fields);
        }
    }

    /** A method begins with a line that ends with ") {" and ends with the brace that stands as far in. */
    private static void lengths(List<String> lines) {
        for (int from = 0; from < lines.size(); from++) {
            Matcher head = Pattern.compile("^( {4}| {8})(?! )[^=]*\\) \\{$").matcher(lines.get(from));
            if (!head.matches()) continue;
            int to = from;
            while (to < lines.size() && !lines.get(to).equals(head.group(1) + "}")) to++;
            if (to - from + 1 > MOST_LINES) wrong.add("long: " + lines.get(from).trim());
        }
    }

    private static void source(Path file) throws IOException {
        String text = Files.readString(file).replaceAll("(?s)/\\*.*?\\*/", "").replaceAll("//[^\n]*", "");
        lengths(Files.readAllLines(file));
        if (!text.chars().allMatch(c -> c == '\n' || c >= 32 && c < 127)) wrong.add("signs beyond 127 in the source");
        for (String pattern : RULED_OUT) {
            Matcher m = Pattern.compile(pattern).matcher(text);
            if (m.find()) wrong.add("ruled out in the source: " + m.group());
        }
    }
}
