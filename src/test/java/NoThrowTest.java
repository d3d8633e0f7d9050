import java.lang.reflect.InvocationTargetException;
import java.lang.reflect.Method;
import java.lang.reflect.Modifier;
import java.util.Arrays;
import java.util.Comparator;
import java.util.NoSuchElementException;
import java.util.Random;

/** Odd arguments in many states: no call throws, but letter() its own exception. */
public final class NoThrowTest {
    private static final int[] ODD = {Integer.MIN_VALUE, Integer.MIN_VALUE + 1, -1000000001, -2, -1, 0, 1, 2, 3, 4, 5, 6,
        7, 8, 9, 10, 11, 12, 13, 50, 51, 999, 1000, 99999, 100000, 9999999, 10000000, 1000000001,
        Integer.MAX_VALUE - 1, Integer.MAX_VALUE};
    private static final String TEXT = "ship a tons 5 fault 4 hull 9999999 value 9999999 clause;"
            + "ship b tons 1 fault 3 hull 9999999 value 0 barred;ship c tons 99999 fault 3 hull 9999999 value 0 clause;"
            + "goods a 9999999 day 0;goods b 9999999 day 9;persons 9999999 day 400;others 9999999 day 999;whole";
    private static final String FULL = "ship a tons 1 fault 1 hull 9999999 value 9999999 clause;"
            + "ship b tons 2 fault 2 hull 9999999 value 9;ship c tons 3 fault 3 hull 9999999 value 9 barred;"
            + "ship d tons 99999 fault 4 hull 9999999 value 9 clause barred"
            + ";goods a 9999999 day 0;goods b 9999999 day 9;goods c 9999999 day 400;goods d 9999999 day 365".repeat(2)
            + ";persons 9999999 day 366;others 9999999 day 730".repeat(2) + ";whole;cross";
    private static int wrong = 0;

    private static void say(String what) {
        wrong++;
        if (wrong < 10) {
            System.out.println(what);
        }
    }

    private static void call(BothToBlame x, Method m, Object[] args) throws IllegalAccessException {
        try {
            m.invoke(x, args);
        } catch (InvocationTargetException e) {
            boolean own = m.getName().equals("letter") && e.getCause().getClass() == NoSuchElementException.class;
            if (!own) {
                say(m.getName() + Arrays.toString(args) + " threw " + e.getCause());
            }
        }
    }

    private static void mustBeGood(String text, int ships, int claims) {
        BothToBlame x = new BothToBlame();
        tell(x, text);
        if (x.about(0) != ships || x.about(1) != claims) {
            say("not read as it should be: " + text);
        }
    }

    private static void tell(BothToBlame x, String text) {
        for (int from = 0; from < text.length(); from += 20) {
            int[] five = new int[5];
            for (int b = 0; b < 20; b++) {
                five[b / 4] = five[b / 4] << 8 | (from + b < text.length() ? text.charAt(from + b) : ' ');
            }
            x.feed(five[0], five[1], five[2], five[3], five[4]);
        }
        x.text(text.length());
    }

    private static Method[] face() {
        Method[] all = Arrays.stream(BothToBlame.class.getDeclaredMethods())
                .filter(m -> Modifier.isPublic(m.getModifiers())).toArray(Method[]::new);
        Arrays.sort(all, Comparator.comparing(Method::getName));
        return all;
    }

    public static void main(String[] args) throws IllegalAccessException {
        Method[] face = face();
        mustBeGood(TEXT, 3, 4);
        mustBeGood(FULL, 4, 12);
        Random random = new Random(1);
        for (int run = 0; run < 4000; run++) {
            BothToBlame x = new BothToBlame();
            if (run % 5 != 0) {
                String text = run % 2 == 0 ? TEXT : FULL;
                tell(x, text.substring(0, run % 50 == 1 ? random.nextInt(text.length()) : text.length()));
            }
            for (int c = 0; c < 450; c++) {
                Method m = face[random.nextInt(face.length)];
                if (m.getName().equals("text") && random.nextInt(5) != 0) {
                    continue;
                }
                Object[] numbers = new Object[m.getParameterCount()];
                for (int a = 0; a < numbers.length; a++) {
                    numbers[a] = random.nextInt(3) == 0 ? ODD[random.nextInt(ODD.length)] : random.nextInt(5);
                }
                call(x, m, numbers);
            }
        }
        System.out.println(wrong == 0 ? "nothing was thrown that isn't due" : wrong + " were thrown");
        if (wrong != 0) {
            System.exit(1);
        }
    }
}
