import java.io.IOException;
import java.lang.reflect.Method;
import java.lang.reflect.Modifier;
import java.net.URL;
import java.net.URLClassLoader;
import java.nio.file.Files;
import java.nio.file.Path;
import java.util.ArrayList;
import java.util.List;
import java.util.Set;
import java.util.TreeSet;
import java.util.regex.Matcher;
import java.util.regex.Pattern;
import java.util.stream.Collectors;
import java.util.stream.Stream;

/** What README.md says is so: its examples are run, its calls, tests and files are looked for. */
public final class ReadmeTest {
    private static final Pattern EXAMPLE = Pattern.compile("```java\n(.*?)```", Pattern.DOTALL);
    private static final Pattern ANSWERED = Pattern.compile("(.*); +// (-?\\d+)(:.*)?");
    private static final Pattern ITEM =
            Pattern.compile("\\| `(\\w)` of `(\\w)` \\|[^|]*\\| (\\d+) \\.\\. (\\d+)[^|]*\\| (\\d+) \\|");
    private static final Check CHECK = new Check();

    public static void main(String[] args) throws ReflectiveOperationException, IOException, InterruptedException {
        String page = Files.readString(Path.of("README.md"));
        examples(page);
        items(page);
        calls(page);
        tests(page);
        files(page);
        CHECK.close("ReadmeTest");
    }

    private static void examples(String page)
            throws ReflectiveOperationException, IOException, InterruptedException {
        List<String> asked = new ArrayList<>();
        String source = sourceOf(page, asked);
        Path place = Files.createTempDirectory("readme");
        Path file = Files.writeString(place.resolve("Example.java"), source);
        int failed = new ProcessBuilder("javac", "-cp", System.getProperty("java.class.path"), "-d", place.toString(),
                file.toString()).inheritIO().start().waitFor();
        CHECK.same("the examples compile", failed, 0);
        if (failed == 0) {
            long[] rows = answersOf(place);
            CHECK.same("there are examples", asked.size() > 20 ? 1 : 0, 1);
            for (int i = 0; i < asked.size(); i++) {
                CHECK.same("README.md: " + asked.get(i), rows[2 * i], rows[2 * i + 1]);
            }
        }
        try (Stream<Path> all = Files.list(place)) {
            for (Path one : all.collect(Collectors.toList())) {
                Files.delete(one);
            }
        }
        Files.delete(place);
    }

    /** A class that answers in one row what each example line gets and, behind it, what README.md tells. */
    private static String sourceOf(String page, List<String> asked) {
        StringBuilder members = new StringBuilder();
        StringBuilder main = new StringBuilder();
        for (Matcher m = EXAMPLE.matcher(page); m.find(); ) {
            if (m.group(1).startsWith("static ")) {
                members.append(m.group(1));
                continue;
            }
            for (String line : m.group(1).split("\n")) {
                Matcher answered = ANSWERED.matcher(line);
                if (answered.matches()) {
                    asked.add(answered.group(1));
                    main.append("r[k++] = ").append(answered.group(1)).append("; r[k++] = ").append(answered.group(2));
                    main.append(";\n");
                } else {
                    main.append(line).append("\n");
                }
            }
        }
        return "public class Example {\n" + members + "public static long[] answers() {\nlong[] r = new long["
                + 2 * asked.size() + "];\nint k = 0;\n" + main + "return r;\n}\n}\n";
    }

    private static long[] answersOf(Path place) throws ReflectiveOperationException, IOException {
        try (URLClassLoader loader = new URLClassLoader(new URL[] {place.toUri().toURL()})) {
            return (long[]) loader.loadClass("Example").getMethod("answers").invoke(null);
        }
    }

    private static void items(String page) {
        int rows = 0;
        for (Matcher m = ITEM.matcher(page); m.find(); rows++) {
            String item = m.group(1);
            boolean ofClass = m.group(2).equals("c");
            HomeFreed usual = Check.arena("c");
            int without = ofClass ? usual.size(0) : usual.rule("tpubh".indexOf(item));
            CHECK.same("without " + item, Integer.parseInt(m.group(5)), without);
            for (int v = 0; v < 100; v++) {
                boolean told = v >= Integer.parseInt(m.group(3)) && v <= Integer.parseInt(m.group(4));
                String text = ofClass ? "su40;c" + item + v : "s" + item + v + ";c";
                CHECK.same("'" + text + "' is right", told ? 1 : 0, Check.faultOf(text, 0) == HomeFreed.NONE ? 1 : 0);
            }
        }
        CHECK.same("items", rows, 6);
    }

    private static void calls(String page) {
        String table = page.substring(page.indexOf("### All calls"), page.indexOf("## Tests"));
        Set<String> told = new TreeSet<>();
        for (Matcher m = Pattern.compile("`(\\w+)`").matcher(table); m.find(); ) {
            CHECK.same("the call " + m.group(1) + " is told once", told.add(m.group(1)) ? 1 : 0, 1);
        }
        Set<String> there = new TreeSet<>();
        for (Method m : HomeFreed.class.getDeclaredMethods()) {
            if (Modifier.isPublic(m.getModifiers())) {
                there.add(m.getName());
            }
        }
        CHECK.same("the calls " + told + " are " + there, told.equals(there) ? 1 : 0, 1);
    }

    private static void tests(String page) throws IOException {
        Set<String> told = new TreeSet<>();
        for (Matcher m = Pattern.compile("\n\\| `(\\w+Test)` \\|").matcher(page); m.find(); ) {
            told.add(m.group(1));
        }
        try (Stream<Path> files = Files.list(Path.of("src/test/java"))) {
            Set<String> there = files.map(file -> file.getFileName().toString()).filter(name -> name.endsWith("Test.java"))
                    .map(name -> name.replace(".java", "")).collect(Collectors.toCollection(TreeSet::new));
            CHECK.same("the tests " + told + " are " + there, told.equals(there) ? 1 : 0, 1);
        }
        CHECK.same(".ci/run can be run", Files.isExecutable(Path.of(".ci/run")) ? 1 : 0, 1);
    }

    private static void files(String page) {
        for (Matcher m = Pattern.compile("`([\\w.]+/[\\w./]+)`").matcher(page); m.find(); ) {
            CHECK.same(m.group(1) + " is there", Files.exists(Path.of(m.group(1))) ? 1 : 0, 1);
        }
    }
}
