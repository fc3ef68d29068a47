import java.io.IOException;
import java.lang.reflect.Constructor;
import java.lang.reflect.Field;
import java.lang.reflect.Method;
import java.lang.reflect.Modifier;
import java.nio.file.Files;
import java.nio.file.Path;
import java.util.Arrays;
import java.util.Set;
import java.util.TreeSet;
import java.util.stream.Collectors;

/** The class that was compiled against the face that the document writes out: all of it, and nothing more. */
public final class FaceTest {
    private static final Check CHECK = new Check();

    public static void main(String[] args) throws ReflectiveOperationException, IOException {
        Set<String> told = told(Files.readString(Path.of("../shared/DOC.md")));
        Set<String> seen = seen();
        CHECK.same("the document's face has a class, 2 constants, a constructor, 36 methods", told.size(), 40);
        for (String one : told) {
            CHECK.same("'" + one + "' is there", seen.contains(one) ? 1 : 0, 1);
        }
        for (String one : seen) {
            CHECK.same("'" + one + "' is in the document", told.contains(one) ? 1 : 0, 1);
        }
        CHECK.same("HomeFreed is of no package", HomeFreed.class.getPackageName().length(), 0);
        CHECK.close("FaceTest");
    }

    /** The lines of the document's face, without the names of parameters. */
    private static Set<String> told(String document) {
        int from = document.indexOf("```java") + "```java".length();
        String face = document.substring(from, document.indexOf("```", from));
        return face.lines().map(String::trim).filter(line -> line.startsWith("public "))
                .map(line -> line.replaceAll(" \\w+(?=[,)])", "").replaceAll(" ?[;{]$", ""))
                .collect(Collectors.toCollection(TreeSet::new));
    }

    /** All that is not private, written as the document writes it. */
    private static Set<String> seen() throws ReflectiveOperationException {
        Class<?> face = HomeFreed.class;
        Set<String> all = new TreeSet<>();
        all.add(Modifier.toString(face.getModifiers()) + " class " + face.getSimpleName());
        for (Field f : face.getDeclaredFields()) {
            if (!Modifier.isPrivate(f.getModifiers())) {
                String value = Modifier.isStatic(f.getModifiers()) ? " = " + f.get(null) : "";
                all.add(Modifier.toString(f.getModifiers()) + " " + f.getType().getSimpleName() + " " + f.getName() + value);
            }
        }
        for (Constructor<?> c : face.getDeclaredConstructors()) {
            all.add(Modifier.toString(c.getModifiers()) + " " + face.getSimpleName() + types(c.getParameterTypes()));
        }
        for (Method m : face.getDeclaredMethods()) {
            if (!Modifier.isPrivate(m.getModifiers())) {
                all.add(written(m));
            }
        }
        return all;
    }

    private static String written(Method m) {
        String thrown = Arrays.stream(m.getExceptionTypes()).map(Class::getSimpleName).collect(Collectors.joining(", "));
        return Modifier.toString(m.getModifiers()) + " " + m.getReturnType().getSimpleName() + " " + m.getName()
                + types(m.getParameterTypes()) + (thrown.isEmpty() ? "" : " throws " + thrown);
    }

    private static String types(Class<?>[] parameters) {
        return Arrays.stream(parameters).map(Class::getSimpleName).collect(Collectors.joining(", ", "(", ")"));
    }
}
