import java.io.ByteArrayOutputStream;
import java.io.IOException;
import java.io.PrintStream;
import java.net.URL;
import java.net.URLClassLoader;
import java.nio.charset.StandardCharsets;
import java.nio.file.Files;
import java.nio.file.Path;
import java.util.Set;
import java.util.TreeSet;
import java.util.regex.Matcher;
import java.util.regex.Pattern;
import javax.tools.ToolProvider;

/** README.md's example compiles and prints what README.md says; its table names the calls of the face, each once. */
public final class ReadmeTest {
    private static int wrong = 0;

    private static void say(String what) {
        wrong++;
        System.out.println(what);
    }

    /** What stands in the first fenced block of this kind. */
    private static String block(String readme, String kind) {
        String fence = "```" + kind + "\n";
        int from = readme.indexOf(fence);
        int to = from < 0 ? -1 : readme.indexOf("```", from + fence.length());
        if (to < 0) {
            say("README.md has no block of " + kind);
            return "";
        }
        return readme.substring(from + fence.length(), to);
    }

    /** What the example prints, compiled in a directory of its own. */
    private static String printed(String example, Path out) throws IOException, ReflectiveOperationException {
        Path source = out.resolve("Example.java");
        Files.writeString(source, example, StandardCharsets.UTF_8);
        int refused = ToolProvider.getSystemJavaCompiler().run(null, null, null, "--release", "17", "-cp",
                System.getProperty("java.class.path"), "-d", out.toString(), source.toString());
        if (refused != 0) {
            say("README.md's example does not compile");
            return "";
        }
        PrintStream screen = System.out;
        ByteArrayOutputStream caught = new ByteArrayOutputStream();
        try (URLClassLoader loader = new URLClassLoader(new URL[] {out.toUri().toURL()})) {
            System.setOut(new PrintStream(caught, true, StandardCharsets.UTF_8));
            loader.loadClass("Example").getMethod("main", String[].class).invoke(null, (Object) new String[0]);
        } finally {
            System.setOut(screen);
        }
        return caught.toString(StandardCharsets.UTF_8).replace(System.lineSeparator(), "\n");
    }

    private static void checkExample(String readme) throws IOException, ReflectiveOperationException {
        Path out = Files.createTempDirectory("readme");
        String got = printed(block(readme, "java"), out);
        String due = block(readme, "text");
        if (!got.equals(due)) {
            say("README.md's example prints:\n" + got + "README.md says:\n" + due);
        }
        try (var files = Files.list(out)) {
            for (Path file : (Iterable<Path>) files::iterator) {
                Files.delete(file);
            }
        }
        Files.delete(out);
    }

    private static void checkTable(String readme) {
        Set<String> face = new TreeSet<>();
        for (var method : BothToBlame.class.getDeclaredMethods()) {
            if (java.lang.reflect.Modifier.isPublic(method.getModifiers())) {
                face.add(method.getName());
            }
        }
        Set<String> table = new TreeSet<>();
        for (String line : readme.split("\n")) {
            Matcher named = Pattern.compile("`(\\w+)`").matcher(line.startsWith("| ") ? line : "");
            while (named.find()) {
                if (!table.add(named.group(1))) {
                    say("README.md's table has " + named.group(1) + " twice");
                }
            }
        }
        if (!table.equals(face)) {
            say("README.md's table has " + table + ", the face has " + face);
        }
    }

    public static void main(String[] args) throws IOException, ReflectiveOperationException {
        String readme = Files.readString(Path.of("README.md"), StandardCharsets.UTF_8);
        checkExample(readme);
        checkTable(readme);
        System.out.println(wrong == 0 ? "README.md says what the class does" : "README.md is wrong " + wrong + " times");
        if (wrong != 0) {
            System.exit(1);
        }
    }
}
