import java.io.IOException;
import java.nio.charset.StandardCharsets;
import java.nio.file.Files;
import java.nio.file.Path;
import java.util.HashSet;
import java.util.Set;
import java.util.TreeSet;
import java.util.regex.Matcher;
import java.util.regex.Pattern;

/** Rules of LANGUAGE.md that can be seen in the source; .ci/run starts it where the project stands. */
public final class LanguageTest {
    private static final Path SOURCE = Path.of("src/main/java/BothToBlame.java");
    private static final String FORBIDDEN = "synchronized|assert|finally|volatile|transient|native|package|try|catch|switch|"
            + "instanceof|double|float|Integer|Long|Object|protected|super|var|getMessage|equals|hashCode|toString";
    private static final Set<String> LIBRARY = Set.of("max", "min", "arraycopy", "fill", "length", "charAt", "values");
    private static int wrong = 0;

    private static void say(String what) {
        wrong++;
        System.out.println(what);
    }

    private static String bare(String source) {
        return source.replaceAll("(?s)/\\*.*?\\*/", "").replaceAll("//[^\n]*", "")
                .replaceAll("\"[^\"]*\"", "\"\"").replaceAll("'[^']'", "0");
    }

    private static void checkWords(String code) {
        Matcher m = Pattern.compile("\\b(" + FORBIDDEN + ")\\b").matcher(code);
        while (m.find()) {
            say("the source holds " + m.group(1));
        }
        if (code.contains("->") || code.contains("::")) {
            say("the source holds a lambda or a method reference");
        }
        Matcher imports = Pattern.compile("import ([\\w.]+);").matcher(code);
        while (imports.find()) {
            if (!Set.of("java.util.Arrays", "java.util.NoSuchElementException").contains(imports.group(1))) {
                say("import " + imports.group(1));
            }
        }
        Matcher thrown = Pattern.compile("throw new (\\w+)").matcher(code);
        while (thrown.find()) {
            if (!thrown.group(1).equals("NoSuchElementException")) {
                say("throw new " + thrown.group(1));
            }
        }
    }

    private static void checkStatics(String code) {
        Matcher m = Pattern.compile("(?m)^\\s+(?:public |private )?static (?!final )(.*)$").matcher(code);
        while (m.find()) {
            if (!m.group(1).contains("(")) {
                say("a static field that is not final: " + m.group(1));
            }
        }
    }

    private static void checkCalls(String code) {
        Set<String> own = new HashSet<>();
        Matcher made = Pattern.compile("(?m)^\\s+(?:public |private |static )*[\\w\\[\\]]+ (\\w+)\\(([^)]*)\\)[^;{]*\\{").matcher(code);
        while (made.find()) {
            own.add(made.group(1));
            if (made.group(2).split(",").length > 7) {
                say(made.group(1) + " has more than seven parameters");
            }
        }
        Set<String> unknown = new TreeSet<>();
        Matcher called = Pattern.compile("\\.(\\w+)\\(").matcher(code);
        while (called.find()) {
            if (!own.contains(called.group(1)) && !LIBRARY.contains(called.group(1))) {
                unknown.add(called.group(1));
            }
        }
        if (!unknown.isEmpty()) {
            say("calls of the library that are not listed: " + unknown);
        }
    }

    private static void checkLengths(String source) {
        int from = 0;
        String head = "";
        int number = 0;
        for (String line : source.split("\n")) {
            number++;
            if (line.matches("^( {4}| {8})(public |private ).*\\) .*\\{$|^( {4}| {8})(public |private ).*\\)\\s*\\{$")) {
                from = number;
                head = line.trim();
            }
            if (line.matches("^( {4}| {8})\\}$") && from > 0) {
                if (number - from > 60) {
                    say(head + " has " + (number - from) + " lines");
                }
                from = 0;
            }
        }
        Matcher classes = Pattern.compile("\\b(class|enum|record|interface) \\w+").matcher(bare(source));
        int count = 0;
        while (classes.find()) {
            count++;
        }
        if (count > 12) {
            say("there are " + count + " classes");
        }
    }

    public static void main(String[] args) throws IOException {
        String source = Files.readString(SOURCE, StandardCharsets.UTF_8);
        for (int at = 0; at < source.length(); at++) {
            if (source.charAt(at) > 126) {
                say("a sign beyond 126 at " + at);
            }
        }
        String code = bare(source);
        checkWords(code);
        checkStatics(code);
        checkCalls(code);
        checkLengths(source);
        System.out.println(wrong == 0 ? "the rules that can be seen are kept" : wrong + " rules are not kept");
        if (wrong != 0) {
            System.exit(1);
        }
    }
}
