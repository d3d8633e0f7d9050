import java.util.ArrayList;
import java.util.List;
import java.util.NoSuchElementException;

/** Each call that may be refused, by each number that it tells: what it answers, which number comes first, what stays as it was. */
public final class RefusalTest extends Checks {
    private interface Call {
        long on(BothToBlame x);
    }

    private record Refusal(String name, Call call, long answer, int number) {
    }

    private static final String CASE = "ship al tons 1000 fault 6 hull 1000 value 600 clause;"
            + "ship bo tons 500 fault 4 hull 500 value 400;goods al 100 day 10;persons 50 day 400;whole;rate 50";
    private static final int[] NO_SHIP = {-1, 2, 4, LEAST_INT, MOST_INT};
    private static final int[] NO_CLAIM = {-1, 3, 12, LEAST_INT, MOST_INT};
    private static final List<Refusal> REFUSALS = new ArrayList<>();

    private static void none(String name, int number, Call call) {
        REFUSALS.add(new Refusal(name, call, -1, number));
    }

    private static void nothing(String name, int number, Call call) {
        REFUSALS.add(new Refusal(name, call, NOTHING, number));
    }

    private static void no(String name, int number, Call call) {
        REFUSALS.add(new Refusal(name, call, 0, number));
    }

    /** Two ships, three claims, three acts, two images, a row on the tape. */
    private static BothToBlame made() {
        BothToBlame x = told(CASE);
        x.image(0);
        x.law(5, 51);
        x.shift(0, 1, 2);
        x.image(1);
        x.file(2, 0, 7, 7);
        x.feed(0x20202020, 0x20202121, 0x21212121, 0x21212121, 0x21212121);
        return x;
    }

    /** All that can be told without changing anything but trouble() and where(). */
    private static List<Long> seen(BothToBlame x) {
        List<Long> all = new ArrayList<>();
        for (int what = 0; what <= 10; what++) {
            all.add((long) x.about(what));
        }
        int ships = (int) (long) all.get(0);
        int claims = (int) (long) all.get(1);
        for (int i = 0; i < ships; i++) {
            for (int what = 0; what < 6; what++) {
                all.add((long) x.ship(i, what));
            }
            all.add(x.net(i));
            try {
                all.add((long) x.letter(i, 1));
            } catch (NoSuchElementException e) {
                all.add(-1L);
            }
        }
        for (int k = 0; k < claims; k++) {
            for (int what = 0; what < 4; what++) {
                all.add((long) x.claim(k, what));
            }
            all.add(x.gets(k, 0));
        }
        return all;
    }

    private static void same(String what, List<Long> got, List<Long> want) {
        if (!got.equals(want)) {
            fail(what + ": " + got + ", it was " + want);
        }
    }

    // ---- the refusals

    private static void texts() {
        none("text(-1)", 2, x -> x.text(-1));
        none("text(21)", 2, x -> x.text(21));
        none("text(601)", 2, x -> x.text(601));
        none("text(least)", 2, x -> x.text(LEAST_INT));
        none("text(most)", 2, x -> x.text(MOST_INT));
    }

    private static void questions() {
        for (int what : new int[] {-1, 11, LEAST_INT, MOST_INT}) {
            none("about(" + what + ")", 1, x -> x.about(what));
        }
        for (int i : NO_SHIP) {
            none("ship(" + i + ", 0)", 1, x -> x.ship(i, 0));
            none("ship(" + i + ", 7)", 1, x -> x.ship(i, 7));
            none("part(" + i + ", 5)", 1, x -> x.part(i, 5));
            none("part(" + i + ", -1)", 1, x -> x.part(i, -1));
            none("owes(" + i + ", 0)", 1, x -> x.owes(i, 0));
            none("pays(" + i + ", 0)", 1, x -> x.pays(i, 0));
            none("fund(" + i + ", 0)", 1, x -> x.fund(i, 0));
            none("sum(" + i + ", 0)", 1, x -> x.sum(i, 0));
            none("bites(" + i + ")", 1, x -> x.bites(i));
            none("cover(" + i + ", 0)", 1, x -> x.cover(i, 0));
            nothing("net(" + i + ")", 1, x -> x.net(i));
            nothing("netBy(" + i + ", 0)", 1, x -> x.netBy(i, 0));
            nothing("netBy(" + i + ", 8)", 1, x -> x.netBy(i, 8));
            none("wished(" + i + ")", 1, x -> x.wished(i));
            nothing("gap(" + i + ")", 1, x -> x.gap(i));
            nothing("judged(" + i + ", 1, 1, 0)", 1, x -> x.judged(i, 1, 1, 0));
            nothing("judged(" + i + ", 0, 0, 0)", 1, x -> x.judged(i, 0, 0, 0));
            none("become(" + i + ", 0, 5)", 1, x -> x.become(i, 0, 5));
            none("become(" + i + ", 0, 0)", 1, x -> x.become(i, 0, 0));
            none("file(0, " + i + ", 5, 5)", 1, x -> x.file(0, i, 5, 5));
            none("file(0, " + i + ", 0, 5)", 1, x -> x.file(0, i, 0, 5));
            pairs(i, 0);
            pairs(0, i);
            pairs(i, i);
        }
        for (int k : NO_CLAIM) {
            none("claim(" + k + ", 0)", 1, x -> x.claim(k, 0));
            none("owes(0, " + k + ")", 1, x -> x.owes(0, k));
            none("pays(0, " + k + ")", 1, x -> x.pays(0, k));
            none("back(" + k + ")", 1, x -> x.back(k));
            none("gets(" + k + ", 0)", 1, x -> x.gets(k, 0));
            none("withdraw(" + k + ")", 1, x -> x.withdraw(k));
        }
    }

    /** Two ships of which one at least is none such: 1 comes ahead of all. */
    private static void pairs(int i, int j) {
        String two = "(" + i + ", " + j;
        none("between" + two + ", 0)", 1, x -> x.between(i, j, 0));
        none("between" + two + ", 4)", 1, x -> x.between(i, j, 4));
        none("paysTo" + two + ")", 1, x -> x.paysTo(i, j));
        nothing("would" + two + ", 0)", 1, x -> x.would(i, j, 0));
        nothing("would" + two + ", -1)", 1, x -> x.would(i, j, -1));
        none("worse" + two + ", 0)", 1, x -> x.worse(i, j, 0));
        none("worse" + two + ", most)", 1, x -> x.worse(i, j, MOST_INT));
        none("shift" + two + ", 1)", 1, x -> x.shift(i, j, 1));
        none("shift" + two + ", 0)", 1, x -> x.shift(i, j, 0));
    }

    private static void kinds() {
        for (int bad : new int[] {-1, 7, LEAST_INT, MOST_INT}) {
            none("ship(0, " + bad + ")", 1, x -> x.ship(0, bad));
            none("claim(0, " + bad + ")", 1, x -> x.claim(0, bad));
            none("between(0, 1, " + bad + ")", 1, x -> x.between(0, 1, bad));
            none("between(0, 0, " + bad + ")", 1, x -> x.between(0, 0, bad));
            none("fund(0, " + bad + ")", 1, x -> x.fund(0, bad));
            none("sum(0, " + bad + ")", 1, x -> x.sum(0, bad));
            none("gets(0, " + bad + ")", 1, x -> x.gets(0, bad));
            none("cover(0, " + bad + ")", 1, x -> x.cover(0, bad));
            nothing("judged(0, 1, 1, " + bad + ")", 1, x -> x.judged(0, 1, 1, bad));
            nothing("judged(0, 0, 0, " + bad + ")", 1, x -> x.judged(0, 0, 0, bad));
            none("file(" + bad + ", 0, 5, 5)", 1, x -> x.file(bad, 0, 5, 5));
            none("file(" + bad + ", 0, 0, 5)", 1, x -> x.file(bad, 0, 0, 5));
            none("become(0, " + bad + ", 1)", 1, x -> x.become(0, bad, 1));
            none("become(0, " + bad + ", -1)", 1, x -> x.become(0, bad, -1));
        }
        none("claim(0, 5)", 1, x -> x.claim(0, 5));
        none("between(0, 1, 4)", 1, x -> x.between(0, 1, 4));
        none("fund(0, 2)", 1, x -> x.fund(0, 2));
        none("sum(0, 2)", 1, x -> x.sum(0, 2));
        none("gets(0, 3)", 1, x -> x.gets(0, 3));
        none("cover(0, 2)", 1, x -> x.cover(0, 2));
        nothing("judged(0, 0, 0, 3)", 1, x -> x.judged(0, 0, 0, 3));
        none("file(3, 0, 0, 5)", 1, x -> x.file(3, 0, 0, 5));
        none("become(0, 1, 1)", 1, x -> x.become(0, 1, 1));
        none("become(0, 6, 1)", 1, x -> x.become(0, 6, 1));
        for (int what : new int[] {0, 1, 10, -1, LEAST_INT, MOST_INT}) {
            none("law(" + what + ", 1)", 1, x -> x.law(what, 1));
            none("law(" + what + ", -1)", 1, x -> x.law(what, -1));
        }
        for (int i : new int[] {-1, 2, LEAST_INT, MOST_INT}) {
            no("image(" + i + ")", 1, x -> x.image(i) ? 1 : 0);
            no("again(" + i + ")", 1, x -> x.again(i) ? 1 : 0);
        }
    }

    private static void numbers() {
        for (int sum : new int[] {-1, 10000000, LEAST_INT, MOST_INT}) {
            none("part(0, " + sum + ")", 2, x -> x.part(0, sum));
            none("file(1, 0, " + sum + ", 5)", 2, x -> x.file(1, 0, sum, 5));
            none("become(0, 2, " + sum + ")", 2, x -> x.become(0, 2, sum));
            none("become(0, 3, " + sum + ")", 2, x -> x.become(0, 3, sum));
        }
        none("file(0, 0, 0, 5)", 2, x -> x.file(0, 0, 0, 5));
        none("become(0, 0, 0)", 2, x -> x.become(0, 0, 0));
        none("become(0, 0, 100000)", 2, x -> x.become(0, 0, 100000));
        for (int bad : new int[] {-1, 2, LEAST_INT, MOST_INT}) {
            none("become(0, 4, " + bad + ")", 2, x -> x.become(0, 4, bad));
            none("become(0, 5, " + bad + ")", 2, x -> x.become(0, 5, bad));
            none("law(2, " + bad + ")", 2, x -> x.law(2, bad));
            none("law(3, " + bad + ")", 2, x -> x.law(3, bad));
            none("law(4, " + bad + ")", 2, x -> x.law(4, bad));
        }
        for (int bad : new int[] {-1, 100000, LEAST_INT, MOST_INT}) {
            for (int what = 5; what <= 9; what++) {
                int law = what;
                none("law(" + law + ", " + bad + ")", 2, x -> x.law(law, bad));
            }
        }
        none("law(7, 0)", 2, x -> x.law(7, 0));
        none("law(8, 1000)", 2, x -> x.law(8, 1000));
        none("law(9, 1000)", 2, x -> x.law(9, 1000));
        none("file(2, 0, 5, -1)", 2, x -> x.file(2, 0, 5, -1));
        none("file(2, 0, 5, 1000)", 2, x -> x.file(2, 0, 5, 1000));
        for (int laws : new int[] {-1, 8, LEAST_INT, MOST_INT}) {
            nothing("netBy(0, " + laws + ")", 2, x -> x.netBy(0, laws));
        }
        for (int f : new int[] {-1, 11, LEAST_INT, MOST_INT}) {
            nothing("would(0, 1, " + f + ")", 2, x -> x.would(0, 1, f));
            nothing("would(0, 0, " + f + ")", 5, x -> x.would(0, 0, f));
        }
        for (int n : new int[] {-1000000001, 1000000001, LEAST_INT, MOST_INT}) {
            none("worse(0, 1, " + n + ")", 2, x -> x.worse(0, 1, n));
            none("worse(0, 0, " + n + ")", 2, x -> x.worse(0, 0, n));
        }
        for (int seed : new int[] {0, -1, LEAST_INT, MOST_INT}) {
            nothing("judged(0, " + seed + ", 1, 0)", 2, x -> x.judged(0, seed, 1, 0));
        }
        for (int n : new int[] {0, -1, 51, LEAST_INT, MOST_INT}) {
            nothing("judged(0, 1, " + n + ", 0)", 2, x -> x.judged(0, 1, n, 0));
        }
        for (int n : new int[] {0, -1, 11, LEAST_INT, MOST_INT}) {
            none("shift(0, 1, " + n + ")", 2, x -> x.shift(0, 1, n));
            none("shift(0, 0, " + n + ")", 2, x -> x.shift(0, 0, n));
        }
    }

    private static void notSo() {
        none("between(1, 1, 0)", 5, x -> x.between(1, 1, 0));
        none("paysTo(1, 1)", 5, x -> x.paysTo(1, 1));
        nothing("would(1, 1, 0)", 5, x -> x.would(1, 1, 0));
        none("worse(1, 1, 0)", 5, x -> x.worse(1, 1, 0));
        none("shift(1, 1, 1)", 5, x -> x.shift(1, 1, 1));
        none("shift(0, 1, 5)", 5, x -> x.shift(0, 1, 5));
        none("shift(1, 0, 7)", 5, x -> x.shift(1, 0, 7));
        none("law(8, 731)", 5, x -> x.law(8, 731));
        none("law(9, 364)", 5, x -> x.law(9, 364));
    }

    // ---- what they leave

    private static void checkAll() {
        BothToBlame y = made();
        List<Long> now = seen(y);
        List<List<Long>> earlier = new ArrayList<>();
        for (int u = 0; u < 3; u++) {
            y.undo();
            earlier.add(seen(y));
        }
        y.again(0);
        List<Long> first = seen(y);
        y.again(1);
        List<Long> second = seen(y);
        for (Refusal r : REFUSALS) {
            BothToBlame x = made();
            refused(x, r.name(), r.call().on(x), r.answer(), r.number());
            due(r.name() + ": size()", x.size(), 20);
            due(r.name() + ": fault()", x.fault(), 0);
            same(r.name() + ": all that is told", seen(x), now);
            for (int u = 0; u < 3; u++) {
                due(r.name() + ": undo()", x.undo(), 2 - u);
                same(r.name() + ": what was undone", seen(x), earlier.get(u));
            }
            due(r.name() + ": again(0)", x.again(0), true);
            same(r.name() + ": image 0", seen(x), first);
            due(r.name() + ": again(1)", x.again(1), true);
            same(r.name() + ": image 1", seen(x), second);
            x.text(20);
            due(r.name() + ": the tape", x.where(), 6);
        }
    }

    private static void byFault() {
        says("What is refused changes nothing but trouble(), where(); by 4 THE TAPE (empty then), fault().");
        List<Long> now = seen(made());
        BothToBlame x = made();
        due("text(20)", x.text(20), -1);
        due("trouble()", x.trouble(), 4);
        due("where()", x.where(), 6);
        due("fault()", x.fault(), 1);
        due("size()", x.size(), 0);
        same("a faulty text", seen(x), now);
        due("undo()", x.undo(), 2);
        due("again(0)", x.again(0), true);
        due("again(1)", x.again(1), true);
        String[] texts = {"ship zz tons 7 fault 1 hull 0 value 0 barred;rate 7;", "ship zz tons 7 fault 11",
            "equal;cross;ship zz tons 5 fault 5 hull 0 value 0;cross", CASE + many(10, "others 1 day 1") + ";others 1 day 1",
            "equal;cross;due 7;last 6;" + TWO};
        for (int t = 0; t < texts.length; t++) {
            x = made();
            x.text(20);
            x.text(feed(x, texts[t]));
            due("fault() of " + texts[t], x.fault(), t + 1);
            same("a text with the fault " + (t + 1), seen(x), now);
        }
    }

    /** No TEXT: whatever else is wrong with them, these are refused by 1. */
    private static void untold() {
        says("1 there is none such (no TEXT, SHIP, CLAIM, IMAGE, what)");
        for (Refusal r : REFUSALS) {
            BothToBlame x = new BothToBlame();
            if (!r.name().startsWith("text(")) {
                refused(x, r.name() + " without a TEXT", r.call().on(x), r.answer(), 1);
            }
        }
        BothToBlame x = new BothToBlame();
        none(x, "ship(0, 0) without a TEXT", x.ship(0, 0), 1);
        none(x, "claim(0, 0) without a TEXT", x.claim(0, 0), 1);
        none(x, "back(0) without a TEXT", x.back(0), 1);
        none(x, "gets(0, 0) without a TEXT", x.gets(0, 0), 1);
        none(x, "withdraw(0) without a TEXT", x.withdraw(0), 1);
        none(x, "between(0, 1, 0) without a TEXT", x.between(0, 1, 0), 1);
        nothing(x, "net(0) without a TEXT", x.net(0), 1);
        none(x, "enough() without a TEXT", x.enough(), 1);
        nothing(x, "all() without a TEXT", x.all(), 1);
        none(x, "undo() without a TEXT", x.undo(), 1);
        none(x, "file(1, 0, 5, 5) without a TEXT", x.file(1, 0, 5, 5), 1);
        none(x, "law(5, 5) without a TEXT", x.law(5, 5), 1);
        no(x, "image(0) without a TEXT", x.image(0), 1);
        no(x, "again(0) without a TEXT", x.again(0), 1);
        x = told(TWO);
        no(x, "again(0) of none", x.again(0), 1);
        none(x, "claim(0, 0) of none", x.claim(0, 0), 1);
        none(x, "withdraw(0) of none", x.withdraw(0), 1);
    }

    private static void noRoom() {
        says("3 no room");
        BothToBlame x = told(TWO + many(12, "others 1 day 1"));
        List<Long> was = seen(x);
        none(x, "a 13th", x.file(2, 0, 1, 1), 3);
        same("a 13th", seen(x), was);
        none(x, "a 13th of a wrong number", x.file(2, 0, 1, 1000), 2);
        none(x, "a 13th of no ship", x.file(0, 2, 1, 1000), 1);
    }

    /** Each of these sets trouble() and where() anew. */
    private static void accepted() {
        says("TROUBLE of the latest call that may be refused (those of which a number is told here): 0 it wasn't");
        due("of a new object", new BothToBlame().trouble(), 0);
        List<Call> calls = List.of(x -> x.about(0), x -> x.ship(0, 0), x -> x.claim(0, 0), x -> x.part(0, 0), x -> x.owes(0, 0),
                x -> x.between(0, 1, 0), x -> x.back(0), x -> x.fund(0, 0), x -> x.pays(0, 0), x -> x.paysTo(0, 1),
                x -> x.sum(0, 0), x -> x.bites(0), x -> x.gets(0, 0), x -> x.cover(0, 0), x -> x.net(0), x -> x.netBy(0, 0),
                x -> x.wished(0), x -> x.gap(0), x -> x.enough(), x -> x.would(0, 1, 0), x -> x.worse(0, 1, 0),
                x -> x.judged(0, 1, 1, 0), x -> x.all(), x -> x.shift(0, 1, 1), x -> x.file(1, 0, 1, 1), x -> x.withdraw(0),
                x -> x.become(0, 2, 1), x -> x.law(5, 1), x -> x.undo(), x -> x.image(0) ? 1 : 0, x -> x.again(0) ? 1 : 0);
        for (int c = 0; c < calls.size(); c++) {
            BothToBlame x = made();
            x.text(20);
            due("trouble() by 4", x.trouble(), 4);
            calls.get(c).on(x);
            due("trouble() behind call " + c, x.trouble(), 0);
            due("where() behind call " + c, x.where(), -1);
            due("fault() behind call " + c, x.fault(), 1);
        }
        BothToBlame x = made();
        x.text(20);
        x.feed(0, 0, 0, 0, 0);
        x.fault();
        x.where();
        x.letter(0, 0);
        x.size();
        due("trouble() behind those that tell no number", x.trouble(), 4);
        due("where() behind those", x.where(), 6);
        x = made();
        x.part(0, -1);
        x.feed(0, 0, 0, 0, 0);
        x.letter(0, 0);
        due("trouble() behind those", x.trouble(), 2);
        due("trouble() told twice", x.trouble(), 2);
    }

    public static void main(String[] args) {
        texts();
        questions();
        kinds();
        numbers();
        notSo();
        says("Of several the one that the call tells first.");
        checkAll();
        byFault();
        untold();
        noRoom();
        accepted();
        end(REFUSALS.size() + " refusals are as told and change nothing");
    }
}
