import java.lang.reflect.Constructor;
import java.lang.reflect.Field;
import java.lang.reflect.Method;
import java.lang.reflect.Modifier;
import java.nio.file.Files;
import java.nio.file.Path;
import java.util.Set;
import java.util.TreeSet;
import java.util.regex.Matcher;
import java.util.regex.Pattern;

/** The document's face, and the rules of LANGUAGE.md that can be seen from outside the methods. */
public final class FaceTest {
    private static final String[] FACE = {
        "person III", "personIs II", "become II", "as II", "beats III", "doing III", "doingIs II", "sets II", "shut ",
        "feed JI", "text I", "untell I", "law IIII", "ticks I", "loose I", "tick I", "seed I", "then II", "soonest I",
        "moment I", "moments II", "away III", "phaseFor III", "odds III", "fits III", "voice III", "body I",
        "sheet III", "put III", "move IIIII", "partsAll I", "judge I", "image ", "restore ", "tell I", "check ",
        "count I", "told I"};
    private static int wrong = 0;

    public static void main(String[] args) throws Exception {
        Set<String> found = new TreeSet<>();
        Set<String> names = new TreeSet<>();
        for (Method m : BlinkMoves.class.getDeclaredMethods()) {
            if (Modifier.isPrivate(m.getModifiers())) continue;
            StringBuilder s = new StringBuilder(m.getName()).append(' ');
            for (Class<?> c : m.getParameterTypes()) s.append(c == int.class ? "I" : c == long.class ? "J" : "?");
            need(m.getReturnType() == int.class && m.getModifiers() == Modifier.PUBLIC, s + " is public and gives an int");
            found.add(s.toString());
            names.add(m.getName());
        }
        need(found.equals(new TreeSet<>(java.util.Arrays.asList(FACE))), "the methods are " + found);
        need(BlinkMoves.class.getModifiers() == (Modifier.PUBLIC | Modifier.FINAL), "public and final");
        Constructor<?>[] made = BlinkMoves.class.getDeclaredConstructors();
        need(made.length == 1 && made[0].getParameterCount() == 0 && Modifier.isPublic(made[0].getModifiers()), "one constructor");
        for (Method m : BlinkMoves.class.getDeclaredMethods()) {
            need(!Modifier.isPrivate(m.getModifiers()) || !names.contains(m.getName()), m + " bears a public name");
        }
        Class<?>[] inside = BlinkMoves.class.getDeclaredClasses();
        need(inside.length <= 12, "at most twelve classes");
        look(BlinkMoves.class, names);
        for (Class<?> c : inside) look(c, names);
        source();
        if (wrong != 0) System.exit(1);
        System.out.println("FaceTest: fine");
    }

    private static void look(Class<?> c, Set<String> names) {
        need(c == BlinkMoves.class || Modifier.isStatic(c.getModifiers()), c + " is static");
        int own = 0;
        for (Field f : c.getDeclaredFields()) {
            int mod = f.getModifiers();
            need(c != BlinkMoves.class || Modifier.isPrivate(mod), f + " is private");
            need(!Modifier.isStatic(mod) || Modifier.isFinal(mod), f + " is final");
            if (!Modifier.isStatic(mod)) own++;
        }
        need(own <= 20, c + " has at most twenty fields");
        for (Method m : c.getDeclaredMethods()) {
            need(m.getParameterCount() <= 7, m + " takes at most seven");
            need(c == BlinkMoves.class || !names.contains(m.getName()), m + " bears a public name");
        }
    }

    /** Words are looked for in the source without its comments and signs. */
    private static void source() throws Exception {
        String s = Files.readString(Path.of("src/main/java/BlinkMoves.java"));
        for (int i = 0; i < s.length(); i++) need(s.charAt(i) < 127, "sign " + i + " is plain");
        String code = s.replaceAll("(?s)/\\*.*?\\*/", "").replaceAll("//[^\n]*", "").replaceAll("'.'", "' '");
        Matcher banned = Pattern.compile("\\b(throw|try|catch|synchronized|assert|import|package|protected|native"
            + "|volatile|transient|Exact|equals|hashCode|toString|System\\.(?!arraycopy)\\w*)\\b|->|::|\"").matcher(code);
        while (banned.find()) need(false, "the source says " + banned.group());
        int from = -1;
        String[] lines = code.split("\n");
        for (int i = 0; i < lines.length; i++) {
            if (lines[i].matches("    (    )?[\\w\\[\\]]+ .*\\) \\{")) from = i;
            if (from >= 0 && lines[i].matches("    (    )?\\}")) {
                need(i - from <= 60, "the method at line " + from + " is short");
                from = -1;
            }
        }
    }

    private static void need(boolean fine, String what) {
        if (!fine) {
            wrong++;
            System.out.println("not so: " + what);
        }
    }
}
