import java.lang.reflect.Method;
import java.lang.reflect.Modifier;
import java.nio.file.Files;
import java.nio.file.Path;
import java.util.ArrayList;
import java.util.HashMap;
import java.util.List;
import java.util.Map;
import java.util.Set;
import java.util.TreeSet;
import java.util.regex.Matcher;
import java.util.regex.Pattern;
import java.util.stream.Collectors;
import java.util.stream.Stream;

/** README.md's examples answer what stands behind them and use every call; its commands name every test of the project. */
public final class ReadmeTest {
    private static final Pattern MADE = Pattern.compile("BlinkMoves island = new BlinkMoves\\(\\);");
    private static final Pattern CALL =
        Pattern.compile("(?:int (\\w+) = )?island\\.(\\w+)\\((.*)\\); *// (-?\\d+)(?:: .+)?");
    private static final Pattern SHIFT = Pattern.compile("1 << (\\w+)");
    private static int wrong = 0;

    public static void main(String[] args) throws Exception {
        List<String> page = Files.readAllLines(Path.of("README.md"));
        examples(block(page, "```java"));
        commands(block(page, "```sh"));
        if (wrong != 0) System.exit(1);
        System.out.println("ReadmeTest: fine");
    }

    /** All lines between such a fence and the next one. */
    private static List<String> block(List<String> page, String fence) {
        List<String> lines = new ArrayList<>();
        boolean inside = false;
        for (String line : page) {
            if (line.startsWith("```")) inside = line.equals(fence);
            else if (inside && !line.isBlank()) lines.add(line);
        }
        return lines;
    }

    private static void examples(List<String> lines) throws Exception {
        Map<String, Method> face = new HashMap<>();
        for (Method m : BlinkMoves.class.getDeclaredMethods()) {
            if (Modifier.isPublic(m.getModifiers())) face.put(m.getName(), m);
        }
        Set<String> unused = new TreeSet<>(face.keySet());
        Map<String, Integer> names = new HashMap<>();
        BlinkMoves island = null;
        for (String line : lines) {
            if (MADE.matcher(line).matches()) {
                island = new BlinkMoves();
                continue;
            }
            Matcher call = CALL.matcher(line);
            if (island == null || !call.matches() || !face.containsKey(call.group(2))) {
                need(false, "no call with an answer: " + line);
                continue;
            }
            int got = (int) asked(island, face.get(call.group(2)), call.group(3), names);
            need(got == Integer.parseInt(call.group(4)), line + " answered " + got);
            if (call.group(1) != null) names.put(call.group(1), got);
            unused.remove(call.group(2));
        }
        need(unused.isEmpty(), "no example of " + unused);
    }

    private static Object asked(BlinkMoves island, Method m, String words, Map<String, Integer> names)
            throws Exception {
        String[] each = words.isEmpty() ? new String[0] : words.split(", ");
        Class<?>[] types = m.getParameterTypes();
        Object[] values = new Object[each.length];
        for (int i = 0; i < each.length && i < types.length; i++) {
            long v = value(each[i], names);
            if (types[i] == int.class) values[i] = (int) v;
            else values[i] = v;
        }
        return m.invoke(island, values);
    }

    private static long value(String word, Map<String, Integer> names) {
        Matcher shift = SHIFT.matcher(word);
        if (shift.matches()) return 1 << value(shift.group(1), names);
        if (names.containsKey(word)) return names.get(word);
        if (word.matches("'.'")) return word.charAt(1);
        return Long.decode(word.endsWith("L") ? word.substring(0, word.length() - 1) : word);
    }

    /** A test that the page forgets, or one that it names and that is gone. */
    private static void commands(List<String> lines) throws Exception {
        Set<String> told = new TreeSet<>();
        for (String line : lines) {
            Matcher run = Pattern.compile("java -cp out (\\w+).*").matcher(line);
            if (run.matches()) told.add(run.group(1));
        }
        Set<String> there = tests();
        need(told.equals(there), "the page names " + told + ", there are " + there);
    }

    private static Set<String> tests() throws Exception {
        try (Stream<Path> files = Files.list(Path.of("src/test/java"))) {
            return files.map(f -> f.getFileName().toString()).filter(n -> n.endsWith("Test.java"))
                .map(n -> n.replace(".java", "")).collect(Collectors.toCollection(TreeSet::new));
        }
    }

    private static void need(boolean fine, String what) {
        if (!fine) {
            wrong++;
            System.out.println("README.md: " + what);
        }
    }
}
