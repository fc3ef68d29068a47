import java.io.IOException;
import java.lang.reflect.Constructor;
import java.lang.reflect.Field;
import java.lang.reflect.Method;
import java.lang.reflect.Modifier;
import java.nio.file.Files;
import java.nio.file.Path;
import java.util.List;
import java.util.Set;
import java.util.TreeSet;
import java.util.regex.Matcher;
import java.util.regex.Pattern;

/** What can be seen of LANGUAGE.md's rules from the source and the compiled class. */
public final class LanguageTest {
    private static final Set<String> FACE = Set.of("feed", "end", "fault", "text", "rule", "size", "page", "list", "thread",
            "queue", "outbox", "held", "get", "free", "tick", "send", "turn", "perform", "years", "status", "undo", "log",
            "step", "waste", "classes", "would", "where", "series", "cheapest", "run", "ways", "shares", "most", "image",
            "back", "count");
    private static final String[] NEVER = {"->", "::", "finally", "synchronized", "assert ", "try ", "catch", "Exact(",
        "instanceof", "@", "protected", "java.util.function", "String.format", ".stream", "Random", "System.out", "nanoTime"};
    private static final Check CHECK = new Check();

    public static void main(String[] args) throws IOException {
        List<String> lines = Files.readAllLines(Path.of("src/main/java/HomeFreed.java"));
        face();
        classes();
        words(lines);
        methods(lines);
        CHECK.close("LanguageTest");
    }

    private static void face() {
        Set<String> names = new TreeSet<>();
        for (Method m : HomeFreed.class.getDeclaredMethods()) {
            if (Modifier.isPublic(m.getModifiers())) {
                names.add(m.getName());
            } else {
                CHECK.same(m + " is private", Modifier.isPrivate(m.getModifiers()) ? 1 : 0, 1);
                CHECK.same(m + " has a name of its own", FACE.contains(m.getName()) ? 1 : 0, 0);
            }
        }
        CHECK.same("the face: " + names, names.equals(FACE) ? 1 : 0, 1);
        int open = 0;
        for (Field f : HomeFreed.class.getDeclaredFields()) {
            open += Modifier.isPrivate(f.getModifiers()) ? 0 : 1;
            boolean loose = Modifier.isStatic(f.getModifiers()) && !Modifier.isFinal(f.getModifiers());
            CHECK.same(f + " is final if static", loose ? 1 : 0, 0);
        }
        CHECK.same("constants of the face", open, 2);
        Constructor<?>[] makers = HomeFreed.class.getDeclaredConstructors();
        CHECK.same("constructors", makers.length, 1);
        CHECK.same("parameters of it", makers[0].getParameterCount(), 0);
    }

    private static void classes() {
        Class<?>[] inside = HomeFreed.class.getDeclaredClasses();
        CHECK.same("classes are few", inside.length + 1 <= 12 ? 1 : 0, 1);
        for (Class<?> c : inside) {
            CHECK.same(c + " is static", Modifier.isStatic(c.getModifiers()) ? 1 : 0, 1);
            CHECK.same(c + " is not public", Modifier.isPublic(c.getModifiers()) ? 1 : 0, 0);
            int fields = 0;
            for (Field f : c.getDeclaredFields()) {
                fields += Modifier.isStatic(f.getModifiers()) ? 0 : 1;
            }
            CHECK.same(c + " has few fields", fields <= 20 ? 1 : 0, 1);
            for (Method m : c.getDeclaredMethods()) {
                CHECK.same(m + " has a name of its own", FACE.contains(m.getName()) ? 1 : 0, 0);
                CHECK.same(m + " has few parameters", m.getParameterCount() <= 7 ? 1 : 0, 1);
            }
        }
    }

    private static void words(List<String> lines) {
        for (int i = 0; i < lines.size(); i++) {
            String line = lines.get(i);
            String code = line.replaceAll("//.*|/\\*\\*.*", "");
            for (String never : NEVER) {
                CHECK.same("line " + (i + 1) + " has '" + never + "'", code.contains(never) ? 1 : 0, 0);
            }
            boolean wellImported = line.equals("import java.util.Arrays;")
                    || line.equals("import java.util.NoSuchElementException;");
            CHECK.same("line " + (i + 1) + " imports", code.startsWith("import") && !wellImported ? 1 : 0, 0);
            CHECK.same("line " + (i + 1) + " is plain", line.chars().anyMatch(c -> c > 126 || c == 9) ? 1 : 0, 0);
        }
    }

    private static void methods(List<String> lines) {
        Pattern head = Pattern.compile("^( +)(?! |if|for|while|switch|else|return|throw).*\\) (throws \\w+ )?\\{$");
        for (int i = 0; i < lines.size(); i++) {
            Matcher m = head.matcher(lines.get(i));
            if (!m.matches() || m.group(1).length() > 8) {
                continue;
            }
            int length = lines.subList(i, lines.size()).indexOf(m.group(1) + "}") + 1;
            CHECK.same("line " + (i + 1) + ": the method is short", length >= 2 && length <= 60 ? 1 : length, 1);
        }
    }
}
