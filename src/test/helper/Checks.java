import java.io.IOException;
import java.nio.charset.StandardCharsets;
import java.nio.file.Files;
import java.nio.file.Path;
import java.util.LinkedHashSet;
import java.util.Set;

/** What tests by hand share: feeding texts, comparing answers, and the words of the document that a check holds to. */
class Checks {
    static final long NOTHING = -1000000000000L;
    static final int LEAST_INT = Integer.MIN_VALUE;
    static final int MOST_INT = Integer.MAX_VALUE;
    static final String TWO = "ship al tons 1000 fault 6 hull 1000 value 600;"
            + "ship bo tons 500 fault 4 hull 500 value 400";

    private static final Path DOCUMENT = Path.of("../shared/DOC.md");
    private static final Set<String> SENTENCES = new LinkedHashSet<>();
    private static String document = null;
    private static String words = "";
    private static int wrong = 0;
    private static int checked = 0;

    private static String folded(String text) {
        return text.replaceAll("\\s+", " ").trim();
    }

    /** The checks from here on hold to these words of the document; a quotation that doesn't stand there is a fault. */
    static void says(String quoted) {
        if (document == null) {
            try {
                document = folded(Files.readString(DOCUMENT, StandardCharsets.UTF_8));
            } catch (IOException e) {
                throw new IllegalStateException("the document can't be read", e);
            }
        }
        words = quoted;
        SENTENCES.add(folded(quoted));
        if (!document.contains(folded(quoted))) {
            fail("the document does not say this");
        }
    }

    /** A heading for checks that hold to a whole promise. */
    static void promise(int number) {
        words = "promise " + number;
    }

    static void fail(String what) {
        wrong++;
        if (wrong <= 40) {
            System.out.println("[" + words + "] " + what);
        }
    }

    static void due(String what, long got, long want) {
        checked++;
        if (got != want) {
            fail(what + " answered " + got + ", due is " + want);
        }
    }

    static void due(String what, boolean got, boolean want) {
        due(what, got ? 1 : 0, want ? 1 : 0);
    }

    /** The call before was refused by this number. */
    static void refused(BothToBlame x, String what, long got, long want, int number) {
        due(what, got, want);
        due(what + ": trouble()", x.trouble(), number);
        due(what + ": where()", x.where(), -1);
    }

    static void none(BothToBlame x, String what, long got, int number) {
        refused(x, what, got, -1, number);
    }

    static void nothing(BothToBlame x, String what, long got, int number) {
        refused(x, what, got, NOTHING, number);
    }

    static void no(BothToBlame x, String what, boolean got, int number) {
        refused(x, what, got ? 1 : 0, 0, number);
    }

    /** Feeds a text, blanks behind it, and says how many bytes the text itself has. */
    static int feed(BothToBlame x, String text) {
        byte[] bytes = text.getBytes(StandardCharsets.ISO_8859_1);
        for (int from = 0; from < bytes.length; from += 20) {
            int[] five = new int[5];
            for (int b = 0; b < 20; b++) {
                int v = from + b < bytes.length ? bytes[from + b] & 255 : ' ';
                five[b / 4] = five[b / 4] << 8 | v;
            }
            x.feed(five[0], five[1], five[2], five[3], five[4]);
        }
        return bytes.length;
    }

    static BothToBlame told(String text) {
        BothToBlame x = new BothToBlame();
        int n = feed(x, text);
        if (x.text(n) < 2) {
            fail("not read, fault " + x.fault() + " at " + x.where() + ": " + text);
        }
        return x;
    }

    /** The text is refused with this fault at this place, and what was told before stays. */
    static void faulty(String text, int fault, int place) {
        BothToBlame x = told(TWO);
        int n = feed(x, text);
        due("text of '" + text + "'", x.text(n), -1);
        due("trouble() of '" + text + "'", x.trouble(), 4);
        due("fault() of '" + text + "'", x.fault(), fault);
        due("where() of '" + text + "'", x.where(), place);
        due("size() of '" + text + "'", x.size(), 0);
        due("about(0) of '" + text + "'", x.about(0), 2);
        due("where() later", x.where(), -1);
        due("fault() later", x.fault(), fault);
    }

    /** The text is read, and has so many ships. */
    static BothToBlame good(String text, int ships) {
        BothToBlame x = new BothToBlame();
        int n = feed(x, text);
        due("text of '" + text + "'", x.text(n), ships);
        due("fault() of '" + text + "'", x.fault(), 0);
        due("trouble() of '" + text + "'", x.trouble(), 0);
        due("where() of '" + text + "'", x.where(), -1);
        return x;
    }

    static String many(int n, String line) {
        return (";" + line).repeat(n);
    }

    static void end(String holds) {
        String quoted = SENTENCES.isEmpty() ? "" : ", " + SENTENCES.size() + " sentences";
        System.out.println(wrong == 0 ? holds + " (" + checked + " checks" + quoted + ")" : wrong + " answers are not as due");
        if (wrong != 0) {
            System.exit(1);
        }
    }
}
