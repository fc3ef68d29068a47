import java.io.IOException;
import java.lang.reflect.Field;
import java.lang.reflect.Method;
import java.lang.reflect.Modifier;
import java.nio.file.Files;
import java.nio.file.Path;
import java.util.ArrayList;
import java.util.List;
import java.util.Map;
import java.util.Set;
import java.util.TreeMap;
import java.util.TreeSet;
import java.util.regex.Matcher;
import java.util.regex.Pattern;

/** What can be seen of LANGUAGE.md's rules from the source and the compiled class. */
public final class LanguageTest {
    private static final Set<String> FACE = new TreeSet<>();
    private static final Set<String> LIBRARY = Set.of("java/lang/Object.<init>", "java/util/NoSuchElementException.<init>",
            "java/lang/String.indexOf", "java/lang/String.length", "java/lang/Math.max", "java/lang/Math.min",
            "java/lang/Math.floorMod", "java/lang/System.arraycopy", "java/util/Arrays.fill");
    private static final int ATHROW = 191;
    private static final List<Integer> MAKES = List.of(187, 188, 189, 197);
    /** invokedynamic, checkcast, instanceof, monitorenter, monitorexit. */
    private static final List<Integer> UNUSED = List.of(186, 192, 193, 194, 195);
    private static final int DEEPEST = 8;
    private static final String[] NEVER = {"->", "::", "finally", "synchronized", "assert ", "try ", "catch", "Exact(",
        "instanceof", "@", "protected", "java.util.function", "String.format", ".stream", "Random", "System.out", "nanoTime"};
    private static final Check CHECK = new Check();

    public static void main(String[] args) throws IOException {
        List<String> lines = Files.readAllLines(Path.of("src/main/java/HomeFreed.java"));
        names();
        classes();
        words(lines);
        methods(lines);
        bodies();
        CHECK.close("LanguageTest");
    }

    private static void names() {
        for (Method m : HomeFreed.class.getDeclaredMethods()) {
            if (Modifier.isPublic(m.getModifiers())) {
                FACE.add(m.getName());
            }
        }
        for (Method m : HomeFreed.class.getDeclaredMethods()) {
            boolean likeTheFace = !Modifier.isPublic(m.getModifiers()) && FACE.contains(m.getName());
            CHECK.same(m + " has a name of its own", likeTheFace ? 1 : 0, 0);
        }
        for (Field f : HomeFreed.class.getDeclaredFields()) {
            boolean loose = Modifier.isStatic(f.getModifiers()) && !Modifier.isFinal(f.getModifiers());
            CHECK.same(f + " is final if static", loose ? 1 : 0, 0);
        }
    }

    private static void classes() {
        Class<?>[] inside = HomeFreed.class.getDeclaredClasses();
        CHECK.same("classes are few", inside.length + 1 <= 12 ? 1 : 0, 1);
        for (Class<?> c : inside) {
            CHECK.same(c + " is static", Modifier.isStatic(c.getModifiers()) ? 1 : 0, 1);
            CHECK.same(c + " is not public", Modifier.isPublic(c.getModifiers()) ? 1 : 0, 0);
            int fields = 0;
            for (Field f : c.getDeclaredFields()) {
                fields += Modifier.isStatic(f.getModifiers()) ? 0 : 1;
            }
            CHECK.same(c + " has few fields", fields <= 20 ? 1 : 0, 1);
            for (Method m : c.getDeclaredMethods()) {
                CHECK.same(m + " has a name of its own", FACE.contains(m.getName()) ? 1 : 0, 0);
                CHECK.same(m + " has few parameters", m.getParameterCount() <= 7 ? 1 : 0, 1);
            }
        }
    }

    private static void words(List<String> lines) {
        for (int i = 0; i < lines.size(); i++) {
            String line = lines.get(i);
            String code = line.replaceAll("//.*|/\\*\\*.*", "");
            for (String never : NEVER) {
                CHECK.same("line " + (i + 1) + " has '" + never + "'", code.contains(never) ? 1 : 0, 0);
            }
            boolean wellImported = line.equals("import java.util.Arrays;")
                    || line.equals("import java.util.NoSuchElementException;");
            CHECK.same("line " + (i + 1) + " imports", code.startsWith("import") && !wellImported ? 1 : 0, 0);
            CHECK.same("line " + (i + 1) + " is plain", line.chars().anyMatch(c -> c > 126 || c == 9) ? 1 : 0, 0);
        }
    }

    private static void methods(List<String> lines) {
        Pattern head = Pattern.compile("^( +)(?! |if|for|while|switch|else|return|throw).*\\) (throws \\w+ )?\\{$");
        for (int i = 0; i < lines.size(); i++) {
            Matcher m = head.matcher(lines.get(i));
            if (!m.matches() || m.group(1).length() > 8) {
                continue;
            }
            int length = lines.subList(i, lines.size()).indexOf(m.group(1) + "}") + 1;
            CHECK.same("line " + (i + 1) + ": the method is short", length >= 2 && length <= 60 ? 1 : length, 1);
        }
    }

    private static void bodies() throws IOException {
        Map<String, Compiled.Body> all = new TreeMap<>();
        List<Class<?>> types = new ArrayList<>(List.of(HomeFreed.class.getDeclaredClasses()));
        types.add(HomeFreed.class);
        for (Class<?> type : types) {
            for (Compiled.Body body : Compiled.of(type).bodies) {
                CHECK.same(body.name() + " is there once", all.put(body.name(), body) == null ? 1 : 0, 1);
                does(body);
            }
        }
        for (Compiled.Body body : all.values()) {
            for (String call : body.calls()) {
                CHECK.same(call + " is own or allowed", all.containsKey(call) || LIBRARY.contains(call) ? 1 : 0, 1);
            }
        }
        for (String name : FACE) {
            int depth = depth(all, "HomeFreed." + name, new ArrayList<>());
            CHECK.same(name + " goes at most so deep: " + depth, depth <= DEEPEST ? 1 : 0, 1);
        }
    }

    /** The room stays as it is if only constructors make anything, but for the exception that page throws. */
    private static void does(Compiled.Body body) {
        boolean isPage = body.name().equals("HomeFreed.page");
        boolean isMaker = body.name().endsWith("init>");
        CHECK.same(body.name() + " catches", body.catches(), 0);
        for (int opcode : body.opcodes()) {
            CHECK.same(body.name() + " has " + opcode, UNUSED.contains(opcode) ? 1 : 0, 0);
            CHECK.same(body.name() + " makes something", MAKES.contains(opcode) && !isMaker && !isPage ? 1 : 0, 0);
            CHECK.same(body.name() + " throws", opcode == ATHROW && !isPage ? 1 : 0, 0);
        }
    }

    /** Calls that stand open at once; a method that calls itself counts once, and only Mixer.mix may. */
    private static int depth(Map<String, Compiled.Body> all, String name, List<String> open) {
        if (!all.containsKey(name)) {
            return 0;
        }
        if (open.contains(name)) {
            CHECK.same(name + " calls itself", name.equals("HomeFreed$Mixer.mix") ? 1 : 0, 1);
            return 0;
        }
        open.add(name);
        int deepest = 0;
        for (String call : all.get(name).calls()) {
            deepest = Math.max(deepest, depth(all, call, open));
        }
        open.remove(name);
        return deepest + 1;
    }
}
