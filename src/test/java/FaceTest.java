import java.io.IOException;
import java.lang.reflect.Constructor;
import java.lang.reflect.Field;
import java.lang.reflect.Member;
import java.lang.reflect.Method;
import java.lang.reflect.Modifier;
import java.nio.charset.StandardCharsets;
import java.nio.file.Files;
import java.nio.file.Path;
import java.util.ArrayList;
import java.util.List;
import java.util.Set;
import java.util.TreeSet;

/** The public face is the document's, line by line, and nothing else of the class can be seen. */
public final class FaceTest extends Checks {
    /** The lines between the document's braces, without the names of parameters. */
    private static Set<String> wanted() throws IOException {
        String document = Files.readString(Path.of("../shared/DOC.md"), StandardCharsets.UTF_8);
        int from = document.indexOf("public final class BothToBlame {");
        String face = document.substring(document.indexOf('\n', from), document.indexOf("```", from));
        Set<String> lines = new TreeSet<>();
        for (String line : face.split("\n")) {
            if (line.endsWith(";")) {
                lines.add(line.trim().replaceAll("(int|long) \\w+([,)])", "$1$2").replace(";", ""));
            }
        }
        return lines;
    }

    private static String types(Class<?>[] classes) {
        List<String> names = new ArrayList<>();
        for (Class<?> c : classes) {
            names.add(c.getSimpleName());
        }
        return String.join(", ", names);
    }

    private static Set<String> found() throws IllegalAccessException {
        Set<String> lines = new TreeSet<>();
        for (Field f : BothToBlame.class.getDeclaredFields()) {
            if (isSeen(f)) {
                String end = f.getType() == long.class ? "L" : "";
                lines.add(Modifier.toString(f.getModifiers()) + " " + f.getType() + " " + f.getName() + " = " + f.get(null) + end);
            }
        }
        for (Constructor<?> c : BothToBlame.class.getDeclaredConstructors()) {
            if (isSeen(c)) {
                lines.add(Modifier.toString(c.getModifiers()) + " BothToBlame(" + types(c.getParameterTypes()) + ")");
            }
        }
        for (Method m : BothToBlame.class.getDeclaredMethods()) {
            if (isSeen(m)) {
                String thrown = types(m.getExceptionTypes());
                lines.add(Modifier.toString(m.getModifiers()) + " " + m.getReturnType() + " " + m.getName() + "("
                        + types(m.getParameterTypes()) + ")" + (thrown.isEmpty() ? "" : " throws " + thrown));
            }
        }
        return lines;
    }

    private static boolean isSeen(Member m) {
        return !Modifier.isPrivate(m.getModifiers()) && !m.isSynthetic();
    }

    public static void main(String[] args) throws IOException, IllegalAccessException {
        says("## The public face");
        Set<String> wanted = wanted();
        Set<String> found = found();
        for (String line : wanted) {
            due("it has " + line, found.contains(line), true);
        }
        for (String line : found) {
            due("the document has " + line, wanted.contains(line), true);
        }
        int modifiers = BothToBlame.class.getModifiers();
        due("public and final", Modifier.isPublic(modifiers) && Modifier.isFinal(modifiers), true);
        due("no package", BothToBlame.class.getPackageName().isEmpty(), true);
        for (Class<?> inner : BothToBlame.class.getDeclaredClasses()) {
            int m = inner.getModifiers();
            due(inner + " is static and not public", Modifier.isStatic(m) && !Modifier.isPublic(m) && !Modifier.isProtected(m), true);
        }
        says("`NONE = -1`: There is none; refused.");
        due("NONE", BothToBlame.NONE, -1);
        says("`NOTHING = -1000000000000L`: What is told of what may be below 0, if it is refused.");
        due("NOTHING", BothToBlame.NOTHING, -1000000000000L);
        end("the face is the document's");
    }
}
