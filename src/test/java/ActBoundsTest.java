import java.util.Arrays;
import java.util.NoSuchElementException;

/** Each sentence about acts, images and names that names a boundary case: terms III, promises 29 to 37 and 39. */
public final class ActBoundsTest extends Checks {
    private static final String CASE = TWO + ";goods al 100 day 10;persons 50 day 400;whole;rate 50";
    private static final int NO_LETTER = -77;

    private static int letter(BothToBlame x, int i, int k) {
        try {
            return x.letter(i, k);
        } catch (NoSuchElementException e) {
            return NO_LETTER;
        }
    }

    /** All that was told, as it is now. */
    private static long[] told(BothToBlame x) {
        long[] all = new long[130];
        int at = 0;
        for (int what = 0; what < 10; what++) {
            all[at++] = x.about(what);
        }
        for (int i = 0; i < x.about(0); i++) {
            for (int what = 0; what < 7; what++) {
                all[at++] = x.ship(i, what);
            }
            all[at++] = letter(x, i, 0);
        }
        for (int k = 0; k < x.about(1); k++) {
            for (int what = 0; what < 5; what++) {
                all[at++] = x.claim(k, what);
            }
        }
        return all;
    }

    private static void same(String what, long[] got, long[] want) {
        due(what + ": all that was told", Arrays.equals(got, want), true);
    }

    private static void differ(String what, long[] got, long[] other) {
        due(what + ": something is another", Arrays.equals(got, other), false);
    }

    // ---- acts and their undoing

    /** Each kind of act in turn; the answer is the one that is due of it. */
    private static void act(BothToBlame x, int kind) {
        switch (kind) {
            case 0:
                due("shift", x.shift(0, 1, 2), 6);
                break;
            case 1:
                due("file", x.file(0, 1, 77, 5), 2);
                break;
            case 2:
                due("withdraw", x.withdraw(0), 1);
                break;
            case 3:
                due("become", x.become(1, 2, 9), 500);
                break;
            default:
                due("law", x.law(4, 1), 0);
        }
    }

    private static void undoing() {
        says("the latest 10 that weren't refused can be undone, the latest first (a TEXT leaves none).");
        for (int kind = 0; kind < 5; kind++) {
            BothToBlame x = told(CASE);
            long[] was = told(x);
            act(x, kind);
            due("an ACT can be undone", x.about(10), 1);
            differ("behind an ACT", told(x), was);
            due("undo()", x.undo(), 0);
            same("behind undo()", told(x), was);
            none(x, "undo() of nothing", x.undo(), 5);
        }
        BothToBlame x = told(CASE);
        long[][] was = new long[5][];
        for (int kind = 0; kind < 5; kind++) {
            was[kind] = told(x);
            if (kind == 2) {
                due("withdraw", x.withdraw(1), 2);
            } else {
                act(x, kind);
            }
        }
        for (int kind = 4; kind >= 0; kind--) {
            due("undo()", x.undo(), kind);
            same("the latest first, " + kind, told(x), was[kind]);
        }

        for (int acts = 0; acts <= 35; acts++) {
            x = told(TWO);
            for (int v = 1; v <= acts; v++) {
                x.law(5, 1000 + v);
            }
            int most = Math.min(acts, 10);
            due("ACTS behind " + acts, x.about(10), most);
            for (int left = most - 1; left >= 0; left--) {
                due("undo()", x.undo(), left);
                int then = acts - most + left;
                due("RATE of " + then, x.about(5), then == 0 ? 100 : 1000 + then);
            }
            none(x, "undo() beyond", x.undo(), 5);
            due("RATE stays", x.about(5), acts > 10 ? 1000 + acts - 10 : 100);
        }

        x = told(TWO);
        for (int v = 1; v <= 25; v++) {
            x.law(5, v);
        }
        for (int left = 9; left >= 6; left--) {
            due("undo()", x.undo(), left);
        }
        x.law(5, 30);
        x.law(5, 31);
        due("ACTS", x.about(10), 8);
        int[] rates = {30, 21, 20, 19, 18, 17, 16, 15};
        for (int u = 0; u < 8; u++) {
            due("undo()", x.undo(), 7 - u);
            due("RATE", x.about(5), rates[u]);
        }
        none(x, "undo() beyond", x.undo(), 5);

        x = told(CASE);
        x.law(5, 7);
        none(x, "a refused ACT", x.law(5, -1), 2);
        none(x, "a refused ACT", x.shift(0, 0, 1), 5);
        none(x, "a refused ACT", x.withdraw(9), 1);
        none(x, "a refused ACT", x.become(0, 1, 1), 1);
        none(x, "a refused ACT", x.file(0, 0, 0, 0), 2);
        due("what is refused is none", x.about(10), 1);
        x.image(0);
        x.net(0);
        x.netBy(0, 7);
        x.would(0, 1, 3);
        x.judged(0, 1, 50, 0);
        x.enough();
        due("no other call is one", x.about(10), 1);
        due("undo()", x.undo(), 0);
        due("RATE", x.about(5), 50);
        due("undo() is none", x.about(10), 0);

        x = told(CASE);
        x.law(5, 7);
        x.text(feed(x, "cross"));
        due("a TEXT that is refused leaves them", x.about(10), 1);
        due("text()", x.text(feed(x, TWO)), 2);
        due("a TEXT leaves none", x.about(10), 0);
        none(x, "undo()", x.undo(), 5);
        same("the new TEXT stays", told(x), told(told(TWO)));

        says("What is set as it was is an ACT, too.");
        x = told(CASE);
        due("law()", x.law(5, 50), 50);
        due("become()", x.become(0, 0, 1000), 1000);
        due("become() of a mark", x.become(0, 4, 0), 0);
        due("law() of a LAW", x.law(3, 1), 1);
        due("ACTS", x.about(10), 4);
        same("nothing is another", told(x), told(told(CASE)));
        due("undo()", x.undo(), 3);
        same("nothing is another", told(x), told(told(CASE)));

        says("The latest ACT is undone: how many still can be. NONE: 1 (no TEXT); 5.");
        x = new BothToBlame();
        none(x, "undo() without a TEXT", x.undo(), 1);
        x = told(TWO);
        none(x, "undo() without an ACT", x.undo(), 5);
    }

    // ---- images

    private static void images() {
        says("IMAGES 0, 1 keep all that was told; BACK TO one (it stays) it is as then, no ACT can be undone (a TEXT leaves no IMAGE).");
        BothToBlame x = told(CASE);
        long[] first = told(x);
        due("image(0)", x.image(0), true);
        for (int kind = 0; kind < 2; kind++) {
            act(x, kind);
        }
        x.withdraw(1);
        x.become(0, 0, 1);
        x.become(0, 3, 2);
        x.become(0, 4, 1);
        x.become(0, 5, 1);
        x.law(2, 1);
        long[] second = told(x);
        due("image(1)", x.image(1), true);
        due("image() leaves the ACTS", x.about(10), 8);
        due("again(0)", x.again(0), true);
        due("trouble()", x.trouble(), 0);
        same("as then", told(x), first);
        due("no ACT can be undone", x.about(10), 0);
        none(x, "undo()", x.undo(), 5);
        due("again(1)", x.again(1), true);
        same("as then", told(x), second);
        x.law(5, 3);
        x.file(1, 0, 5, 5);
        due("again(1): it stays", x.again(1), true);
        same("as then", told(x), second);
        due("again(0): it stays", x.again(0), true);
        same("as then", told(x), first);

        x = told(CASE);
        x.image(0);
        x.law(5, 3);
        x.image(0);
        x.law(5, 4);
        x.undo();
        x.undo();
        due("RATE", x.about(5), 50);
        x.again(0);
        due("the later image", x.about(5), 3);
        x.law(5, 5);
        due("an ACT behind it", x.about(10), 1);
        due("undo()", x.undo(), 0);
        due("RATE", x.about(5), 3);
        x.text(feed(x, "cross"));
        due("a TEXT that is refused leaves it", x.again(0), true);
        x.image(1);
        due("text()", x.text(feed(x, CASE)), 2);
        no(x, "again(0) behind a TEXT", x.again(0), 1);
        no(x, "again(1) behind a TEXT", x.again(1), 1);
        x.image(1);
        no(x, "again(0), the other one is kept", x.again(0), 1);
        due("again(1)", x.again(1), true);

        x = told(TWO + ";ship cc tons 1 fault 0 hull 0 value 0;" + "others 5 day 5");
        x.image(0);
        x.withdraw(0);
        x.again(0);
        due("SHIPS", x.about(0), 3);
        due("CLAIMS", x.about(1), 1);
        due("a NAME", letter(x, 2, 1), 2);

        says("IMAGE i (0, 1) is kept: true; false: 1 (no TEXT, too).");
        for (int i : new int[] {-1, 2, LEAST_INT, MOST_INT}) {
            no(x, "image(" + i + ")", x.image(i), 1);
        }
        BothToBlame y = new BothToBlame();
        no(y, "image(0) without a TEXT", y.image(0), 1);
        y.text(feed(y, CASE));
        no(y, "nothing was kept then", y.again(0), 1);

        says("BACK TO it: true; false: 1 (it wasn't kept, too).");
        for (int i : new int[] {-1, 1, 2, LEAST_INT, MOST_INT}) {
            no(x, "again(" + i + ")", x.again(i), 1);
        }
    }

    // ---- each act at its bounds

    private static void shifting() {
        says("ACT: n tenths (1 .. 10) of SHIP i go over to SHIP j: how many j has then. NONE: 1; 2; 5 (it is one; i has not so many).");
        for (int n = 1; n <= 6; n++) {
            BothToBlame x = told(TWO);
            due("shift " + n, x.shift(0, 1, n), 4 + n);
            due("is left", x.ship(0, 1), 6 - n);
            due("has", x.ship(1, 1), 4 + n);
        }
        BothToBlame x = told(TWO);
        none(x, "shift(0, 1, 7)", x.shift(0, 1, 7), 5);
        none(x, "shift(1, 0, 5)", x.shift(1, 0, 5), 5);
        due("shift(1, 0, 4)", x.shift(1, 0, 4), 10);
        none(x, "shift(1, 0, 1) of nothing", x.shift(1, 0, 1), 5);
        due("shift(0, 1, 10)", x.shift(0, 1, 10), 10);
        for (int n : new int[] {0, -1, 11, LEAST_INT, MOST_INT}) {
            none(x, "shift(0, 1, " + n + ")", x.shift(0, 1, n), 2);
            none(x, "shift(0, 0, " + n + ")", x.shift(0, 0, n), 2);
            none(x, "shift(0, 2, " + n + ")", x.shift(0, 2, n), 1);
            none(x, "shift(2, 2, " + n + ")", x.shift(2, 2, n), 1);
            none(x, "shift(-1, 0, " + n + ")", x.shift(-1, 0, n), 1);
        }
        none(x, "shift(1, 1, 1)", x.shift(1, 1, 1), 5);
    }

    private static void filing() {
        says("ACT: a CLAIM comes (kind; SHIP of goods, of others whatever; AMOUNT, DAY as told in I): its number. NONE: 1 (no TEXT,"
                + " kind, SHIP of goods); 2; 3 (twelve).");
        BothToBlame x = new BothToBlame();
        none(x, "file() without a TEXT", x.file(1, 0, 0, 5), 1);
        x = told(TWO);
        due("goods", x.file(0, 1, 1, 0), 0);
        due("persons", x.file(1, LEAST_INT, 9999999, 999), 1);
        due("others", x.file(2, MOST_INT, 1, 999), 2);
        int[][] claims = {{0, 1, 1, 0, 0}, {1, -2, 9999999, 999, -2}, {2, -2, 1, 999, -2}};
        for (int k = 0; k < 3; k++) {
            for (int what = 0; what < 5; what++) {
                due("claim(" + k + ", " + what + ")", x.claim(k, what), claims[k][what]);
            }
        }
        for (int kind : new int[] {-1, 3, LEAST_INT, MOST_INT}) {
            none(x, "file() of kind " + kind, x.file(kind, 0, 0, -1), 1);
        }
        for (int ship : new int[] {-1, 2, LEAST_INT, MOST_INT}) {
            none(x, "goods of ship " + ship, x.file(0, ship, 0, -1), 1);
        }
        for (int kind = 0; kind < 3; kind++) {
            for (int amount : new int[] {0, -1, 10000000, LEAST_INT, MOST_INT}) {
                none(x, "AMOUNT " + amount, x.file(kind, 0, amount, 5), 2);
            }
            for (int day : new int[] {-1, 1000, LEAST_INT, MOST_INT}) {
                none(x, "DAY " + day, x.file(kind, 0, 5, day), 2);
            }
        }
        for (int k = 3; k < 12; k++) {
            due("file()", x.file(k % 3, 0, k, k), k);
        }
        for (int kind = 0; kind < 3; kind++) {
            none(x, "a 13th", x.file(kind, 0, 5, 5), 3);
            none(x, "a 13th of no AMOUNT", x.file(kind, 0, 0, 5), 2);
        }
        none(x, "a 13th of no kind", x.file(3, 0, 5, 5), 1);
        due("twelve", x.about(1), 12);
        x.withdraw(5);
        due("room again", x.file(1, 0, 5, 5), 11);
    }

    private static void withdrawing() {
        says("ACT: a CLAIM is withdrawn (those behind it move up): how many are left. NONE: 1.");
        for (int k = 0; k < 3; k++) {
            BothToBlame x = told(TWO + ";goods bo 1 day 1;persons 2 day 2;others 3 day 3");
            due("withdraw(" + k + ")", x.withdraw(k), 2);
            int next = 0;
            for (int old = 0; old < 3; old++) {
                if (old != k) {
                    due("kind", x.claim(next, 0), old);
                    due("SHIP", x.claim(next, 1), old == 0 ? 1 : -2);
                    due("AMOUNT", x.claim(next, 2), old + 1);
                    due("DAY", x.claim(next, 3), old + 1);
                    next++;
                }
            }
            none(x, "claim(2, 0)", x.claim(2, 0), 1);
        }
        BothToBlame x = told(TWO + many(12, "others 3 day 3"));
        for (int left = 11; left >= 0; left--) {
            due("withdraw()", x.withdraw(left / 2), left);
        }
        for (int k : new int[] {0, -1, 12, LEAST_INT, MOST_INT}) {
            none(x, "withdraw(" + k + ")", x.withdraw(k), 1);
        }
        due("what was withdrawn is owed nothing", x.sum(0, 0), 0);
        x = told(TWO + ";others 50 day 3;others 100 day 3");
        // Al owes 300 and is owed 400, bo owes 100 so.
        due("owed by bo", x.sum(1, 0), 160);
        due("withdraw(0)", x.withdraw(0), 1);
        due("owed by bo", x.sum(1, 0), 140);
        due("withdraw(0)", x.withdraw(0), 0);
        due("owed by bo", x.sum(1, 0), 100);
    }

    private static void becoming() {
        says("ACT: what of a SHIP (0 TONS, 2 HULL, 3 VALUE, 4 CLAUSE, 5 BARRED, within the bounds of I; 0, 1) is v from now on: what"
                + " it was. NONE: 1 (another what, too); 2.");
        int[] low = {1, 0, 0, 0, 0, 0};
        int[] high = {99999, 0, 9999999, 9999999, 1, 1};
        int[] was = {500, 0, 500, 400, 0, 0};
        BothToBlame x = told(TWO);
        for (int what : new int[] {0, 2, 3, 4, 5}) {
            due("to the least", x.become(1, what, low[what]), was[what]);
            due("to the most", x.become(1, what, high[what]), low[what]);
            due("as it is now", x.ship(1, what), high[what]);
            for (int v : new int[] {low[what] - 1, high[what] + 1, LEAST_INT, MOST_INT}) {
                none(x, "become(1, " + what + ", " + v + ")", x.become(1, what, v), 2);
                none(x, "become(2, " + what + ", " + v + ")", x.become(2, what, v), 1);
            }
            due("it stays", x.ship(1, what), high[what]);
            due("of the other one", x.ship(0, what), new int[] {1000, 6, 1000, 600, 0, 0}[what]);
        }
        for (int what : new int[] {-1, 1, 6, LEAST_INT, MOST_INT}) {
            none(x, "become(1, " + what + ", 5)", x.become(1, what, 5), 1);
            none(x, "become(1, " + what + ", -5)", x.become(1, what, -5), 1);
        }
        none(x, "become(-1, 0, 5)", x.become(-1, 0, 5), 1);
    }

    private static void lawgiving() {
        says("ACT: a LAW or number (what as in about(), 2 .. 9, within the bounds of I; 0, 1) is v from now on: what it was. NONE: 1 (no"
                + " TEXT, another what); 2; 5 (LAST below DUE).");
        BothToBlame x = new BothToBlame();
        none(x, "law() without a TEXT", x.law(5, -1), 1);
        int[] low = {0, 0, 0, 0, 0, 0, 0, 1, 0, 0};
        int[] high = {0, 0, 1, 1, 1, 99999, 99999, 99999, 999, 999};
        int[] was = {0, 0, 0, 0, 0, 100, 200, 300, 365, 730};
        x = told(TWO);
        for (int what = 2; what <= 9; what++) {
            int least = what == 9 ? 365 : low[what];
            int most = what == 8 ? 730 : high[what];
            due("to the least", x.law(what, least), was[what]);
            due("to the most", x.law(what, most), least);
            due("as it is now", x.about(what), most);
            for (int v : new int[] {low[what] - 1, high[what] + 1, LEAST_INT, MOST_INT}) {
                none(x, "law(" + what + ", " + v + ")", x.law(what, v), 2);
            }
            due("it stays", x.about(what), most);
            x.undo();
            x.undo();
        }
        for (int what : new int[] {0, 1, 10, -1, LEAST_INT, MOST_INT}) {
            none(x, "law(" + what + ", 1)", x.law(what, 1), 1);
            none(x, "law(" + what + ", -1)", x.law(what, -1), 1);
        }
        none(x, "DUE 731", x.law(8, 731), 5);
        none(x, "DUE 999", x.law(8, 999), 5);
        none(x, "LAST 364", x.law(9, 364), 5);
        none(x, "LAST 0", x.law(9, 0), 5);
        due("LAST 365", x.law(9, 365), 730);
        none(x, "DUE 366", x.law(8, 366), 5);
        due("DUE 0", x.law(8, 0), 365);
        due("LAST 0", x.law(9, 0), 365);
        due("LAST 999", x.law(9, 999), 0);
        due("DUE 999", x.law(8, 999), 0);
    }

    private static void letters() {
        says("Letter k (0 a, ..) of the NAME of a SHIP. NoSuchElementException if there is none such.");
        BothToBlame x = new BothToBlame();
        due("letter(0, 0) without a TEXT", letter(x, 0, 0), NO_LETTER);
        x = told("ship a tons 1 fault 5 hull 0 value 0;ship zyxwvu tons 1 fault 5 hull 0 value 0");
        due("letter(0, 0)", letter(x, 0, 0), 0);
        for (int k = 0; k < 6; k++) {
            due("letter(1, " + k + ")", letter(x, 1, k), 25 - k);
        }
        for (int k : new int[] {-1, 1, 5, 6, 7, 32, LEAST_INT, MOST_INT}) {
            due("letter(0, " + k + ")", letter(x, 0, k), NO_LETTER);
        }
        for (int k : new int[] {-1, 6, 7, 12, 13, 64, LEAST_INT, MOST_INT}) {
            due("letter(1, " + k + ")", letter(x, 1, k), NO_LETTER);
        }
        for (int i : new int[] {-1, 2, 3, 4, LEAST_INT, MOST_INT}) {
            due("letter(" + i + ", 0)", letter(x, i, 0), NO_LETTER);
        }
        x.text(feed(x, TWO));
        due("of the new TEXT", letter(x, 1, 0), 1);
        due("of the new TEXT", letter(x, 1, 2), NO_LETTER);
        x.part(0, -1);
        letter(x, 0, 0);
        letter(x, 9, 9);
        due("trouble() stays", x.trouble(), 2);
    }

    public static void main(String[] args) {
        undoing();
        images();
        shifting();
        filing();
        withdrawing();
        becoming();
        lawgiving();
        letters();
        end("each sentence about acts and images holds");
    }
}
