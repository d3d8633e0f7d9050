import java.util.ArrayList;
import java.util.Arrays;
import java.util.List;

/** Each sentence about the tape and the text that names a boundary case: terms I, promises 1 to 5 and 38. */
public final class TextBoundsTest extends Checks {
    private static final int END = TWO.length();
    private static final String[] KEPT = {"ship", "tons", "fault", "hull", "value", "clause", "barred", "goods", "day",
        "equal", "whole", "cross", "rate", "lives", "least", "due", "last", "others"};
    private static final String FOUR = TWO + ";ship c tons 1 fault 0 hull 0 value 0;ship d tons 1 fault 0 hull 0 value 0";

    private static String ship(String name, int fault) {
        return "ship " + name + " tons 1 fault " + fault + " hull 0 value 0";
    }

    /** Two ships, the first with a line of its own. */
    private static String with(String line) {
        return line + ";" + ship("zz", 4);
    }

    // ---- the tape

    private static void tape() {
        says("THE TAPE has 600 bytes");
        BothToBlame x = new BothToBlame();
        String full = TWO + " ".repeat(594 - END) + ";cross";
        due("bytes", feed(x, full), 600);
        due("size()", x.size(), 600);
        due("text(600)", x.text(600), 2);
        due("its last word holds", x.about(4), 1);
        feed(x, full);
        due("text(599) lacks the last letter", x.text(599), -1);
        due("fault()", x.fault(), 1);
        due("where()", x.where(), 595);
        feed(x, " ".repeat(599) + ";");
        due("the last byte alone", x.text(600), -1);
        due("where()", x.where(), 599);

        says("Twenty bytes come behind THE TAPE, of each number the highest first: how many it has");
        for (int at = 0; at < 20; at++) {
            x = new BothToBlame();
            due("feed() of a first row", x.feed(0x20202020, 0x20202020, 0x20202020, 0x20202020, 0x20202020), 20);
            int[] five = {0x20202020, 0x20202020, 0x20202020, 0x20202020, 0x20202020};
            five[at / 4] ^= (0x20 ^ 0xe9) << (24 - at % 4 * 8);
            due("feed() of a second row", x.feed(five[0], five[1], five[2], five[3], five[4]), 40);
            x.text(40);
            due("the place of byte " + at, x.where(), 20 + at);
        }

        says("NONE, and none comes, if there would be more than 600 (trouble() stays)");
        x = told(TWO);
        feed(x, full);
        x.part(0, -1);
        due("feed() beyond", x.feed(0x21212121, 0x21212121, 0x21212121, 0x21212121, 0x21212121), -1);
        due("feed() beyond again", x.feed(0x21212121, 0x21212121, 0x21212121, 0x21212121, 0x21212121), -1);
        due("size()", x.size(), 600);
        due("trouble() stays", x.trouble(), 2);
        due("nothing came", x.text(600), 2);
        due("feed() goes on behind a text", x.feed(0, 0, 0, 0, 0), 20);
        feed(x, " ".repeat(560));
        due("size()", x.size(), 580);
        due("the last row that has room", x.feed(0, 0, 0, 0, 0), 600);
        due("no row more", x.feed(0, 0, 0, 0, 0), -1);

        says("Bytes of THE TAPE.");
        x = new BothToBlame();
        due("size() of nothing", x.size(), 0);
        for (int row = 1; row <= 30; row++) {
            x.feed(0, 0, 0, 0, 0);
            due("size()", x.size(), 20 * row);
        }
    }

    private static void calls() {
        says("An object is used for at most 512 calls after it has been made");
        BothToBlame x = told(TWO);
        int done = (END + 19) / 20 + 1;
        for (; done < 511; done++) {
            due("law() by turns", x.law(5, done), done == (END + 19) / 20 + 1 ? 100 : done - 1);
        }
        due("the 512th call", x.about(5), 510);
    }

    // ---- tokens

    private static void blanks() {
        says("blanks, 32, part TOKENS and mean nothing else");
        good("   " + TWO.replace(" ", "    ") + "   ", 2);
        good(TWO.replace(";", "   ;  "), 2);
        faulty(TWO.replace("ship bo", "sh ip bo"), 1, TWO.indexOf(";") + 1);
        faulty(TWO.replace("tons 1000", "tons 10 00"), 1, 16);
        for (int other : new int[] {0, 9, 10, 11, 12, 13, 31, 33, 95, 127, 128, 160, 255}) {
            faulty(TWO + (char) other, 1, END);
            faulty((char) other + TWO, 1, 0);
        }
    }

    private static void rows() {
        says("WORDS of 1 to 7 small letters that stand together");
        good(with(ship("a", 6)) + ";persons 1 day 1", 2);
        faulty(TWO + ";personss 1 day 1", 1, END + 1);
        faulty("Ship" + TWO.substring(4), 1, 0);
        faulty(TWO + ";perSons 1 day 1", 1, END + 1);

        says("WHOLES of 1 to 7 digits that do");
        BothToBlame x = good(with("ship a tons 0000001 fault 0000006 hull 0000000 value 9999999"), 2);
        due("TONS", x.ship(0, 0), 1);
        due("FAULT", x.ship(0, 1), 6);
        due("VALUE", x.ship(0, 3), 9999999);
        faulty(with("ship a tons 00000001 fault 6 hull 0 value 0"), 1, 12);

        says("single ;");
        faulty(TWO + ";;cross", 1, END + 1);
        faulty(";", 1, 0);

        says("a row of letters, of digits ends at any other byte");
        x = good("ship a tons5fault6hull7value8clause barred;ship b tons9fault4hull1value2;goods a3day4;rate6;last999;due998", 2);
        due("VALUE", x.ship(0, 3), 8);
        due("CLAUSE", x.ship(0, 4), 1);
        due("BARRED", x.ship(0, 5), 1);
        due("AMOUNT", x.claim(0, 2), 3);
        due("DAY", x.claim(0, 3), 4);
        due("RATE", x.about(5), 6);
        faulty(TWO + ";rate5x", 1, END + 6);
        faulty(TWO + ";rate5!", 1, END + 6);
        faulty(TWO + ";5rate", 1, END + 1);
        faulty(TWO + ";cross1", 1, END + 6);
        faulty("shipa" + TWO.substring(7), 1, 0);
    }

    private static void everyByte() {
        says("a byte that begins no TOKEN");
        for (int b = 0; b < 256; b++) {
            String behind = TWO + (char) b;
            if (b == ' ' || b >= '0' && b <= '9') {
                good(behind, 2);
            } else {
                faulty(behind, 1, b == ';' ? END + 1 : END);
            }
            faulty(TWO + ";" + (char) b, 1, b == ' ' ? END + 2 : END + 1);
            if (b != ' ') {
                faulty((char) b + " " + TWO, 1, 0);
            }
        }
    }

    private static void tooMany() {
        says("letters or digits too many that stand together (at the first of these)");
        faulty("ship abcdefgh tons 1", 1, 5);
        faulty("shipshipship", 1, 0);
        faulty(TWO + ";rate 00000005", 1, END + 6);
        faulty(TWO + ";rate 12345678", 1, END + 6);
        faulty(TWO + ";goods al 10000000 day 1", 1, END + 10);
        faulty(TWO + "1".repeat(5), 1, END - 3);
        faulty(TWO + "1".repeat(400), 1, END - 3);
        faulty(TWO + ";" + "a".repeat(400), 1, END + 1);
        good(TWO + "0000", 2);
    }

    // ---- lines

    private static void lines() {
        says("LINE {; LINE}");
        good("cross;" + TWO, 2);
        faulty("", 1, 0);
        faulty(TWO + ";", 1, END + 1);
        faulty(TWO + " ; ", 1, END + 3);
        faulty(";" + TWO, 1, 0);
        faulty(TWO + " cross", 1, END + 1);
        faulty(TWO + " 5", 1, END + 1);
        faulty(TWO.replace(";", " "), 1, TWO.indexOf(";") + 1);
    }

    /** Cuts a line behind each of its tokens, and puts a wrong one in the place of each. */
    private static void brokenLine(String before, String line, int least) {
        List<String> tokens = new ArrayList<>(Arrays.asList(line.split(" ")));
        int place = before.length();
        StringBuilder ahead = new StringBuilder(before);
        for (int t = 0; t < tokens.size(); t++) {
            String token = tokens.get(t);
            boolean whole = Character.isDigit(token.charAt(0));
            for (String other : new String[] {";", "!", "abcdefg", "abcdefgh", "12345678", whole ? "tons" : "5"}) {
                if (!(other.equals(";") && t >= least)) {
                    faulty(ahead + other + line.substring(place - before.length() + token.length()), 1, place);
                }
            }
            if (t < least) {
                faulty(ahead.toString(), 1, ahead.length());
            }
            ahead.append(token).append(' ');
            place += token.length() + 1;
        }
    }

    private static void forms() {
        says("ship NAME tons WHOLE fault WHOLE hull WHOLE value WHOLE [clause] [barred]");
        brokenLine("", "ship a tons 5 fault 6 hull 7 value 8", 10);
        brokenLine(TWO + ";", "ship a tons 5 fault 0 hull 7 value 8 clause barred", 10);
        int[][] marks = {{0, 0}, {1, 0}, {0, 1}, {1, 1}};
        String[] written = {"", " clause", " barred", " clause barred"};
        for (int m = 0; m < 4; m++) {
            BothToBlame x = good(TWO + written[m], 2);
            due("CLAUSE", x.ship(1, 4), marks[m][0]);
            due("BARRED", x.ship(1, 5), marks[m][1]);
            due("of the other one no mark", x.ship(0, 4) + x.ship(0, 5), 0);
        }
        faulty(TWO + " barred clause", 1, END + 8);
        faulty(TWO + " clause clause", 1, END + 8);
        faulty(TWO + " barred barred", 1, END + 8);
        faulty(TWO + " clause barred barred", 1, END + 15);
        faulty("ship a clause tons 5", 1, 7);

        says("goods NAME WHOLE day WHOLE");
        brokenLine(TWO + ";", "goods al 5 day 6", 5);
        says("persons WHOLE day WHOLE");
        brokenLine(TWO + ";", "persons 5 day 6", 4);
        faulty(TWO + ";persons al 5 day 6", 1, END + 9);
        says("others WHOLE day WHOLE");
        brokenLine(TWO + ";", "others 5 day 6", 4);
        faulty(TWO + ";others al 5 day 6", 1, END + 8);
        says("equal | whole | cross (LAWS that hold then, without them not)");
        String[] laws = {"equal", "whole", "cross"};
        for (int l = 0; l < 3; l++) {
            BothToBlame x = good(TWO + ";" + laws[l], 2);
            for (int what = 2; what <= 4; what++) {
                due("about(" + what + ") by " + laws[l], x.about(what), what == l + 2 ? 1 : 0);
            }
            faulty(TWO + ";" + laws[l] + " 1", 1, END + laws[l].length() + 2);
            faulty(TWO + ";" + laws[l] + " cross", 1, END + laws[l].length() + 2);
            brokenLine(TWO + ";", laws[l], 1);
        }
        for (String number : new String[] {"rate", "lives", "least", "due", "last"}) {
            brokenLine(TWO + ";", number + " 365", 2);
        }
    }

    private static void ships() {
        says("(a SHIP, numbered from 0; 2 to 4.");
        faulty("cross", 5, 5);
        faulty(ship("a", 10), 5, ship("a", 10).length());
        BothToBlame x = good(FOUR, 4);
        due("TONS of the first", x.ship(0, 0), 1000);
        due("TONS of the second", x.ship(1, 0), 500);
        due("no fifth", x.ship(4, 0), -1);
        good(TWO + ";" + ship("c", 0), 3);

        says("TONS 1 .. 99,999;");
        bound("ship a tons # fault 6 hull 0 value 0", 0, 1, 99999);
        says("FAULT in tenths 0 .. 10;");
        faulty(with("ship a tons 1 fault 11 hull 0 value 0"), 2, 20);
        faulty(with("ship a tons 1 fault 9999999 hull 0 value 0"), 2, 20);
        due("FAULT 10", good(ship("a", 10) + ";" + ship("b", 0), 2).ship(0, 1), 10);
        due("FAULT 0", good(ship("a", 10) + ";" + ship("b", 0), 2).ship(1, 1), 0);
        says("HULL, what is lost of it, and VALUE 0 .. 9,999,999 each; its marks)");
        bound("ship a tons 1 fault 6 hull # value 0", 2, 0, 9999999);
        bound("ship a tons 1 fault 6 hull 0 value #", 3, 0, 9999999);
    }

    /** The number at # is read at its bounds, and refused by 2 beyond them (by 1, where it has eight digits). */
    private static void bound(String line, int what, int low, int high) {
        int place = line.indexOf("#");
        for (int v : new int[] {low, high}) {
            due(line + " with " + v, good(with(line.replace("#", "" + v)), 2).ship(0, what), v);
        }
        if (low > 0) {
            faulty(with(line.replace("#", "" + (low - 1))), 2, place);
        }
        faulty(with(line.replace("#", "" + (high + 1))), high == 9999999 ? 1 : 2, place);
    }

    private static void claims() {
        says("for goods on a SHIP told ahead: AMOUNT 1 .. 9,999,999; the DAY on which it came, 0 .. 999)");
        String[] heads = {"goods bo ", "persons ", "others "};
        for (int kind = 0; kind < 3; kind++) {
            if (kind == 1) {
                says("(CLAIMS likewise, of nobody's ship; up to 12 in all)");
            }
            int at = END + 1 + heads[kind].length();
            for (int[] v : new int[][] {{1, 0}, {9999999, 999}, {1, 999}, {9999999, 0}}) {
                BothToBlame x = good(TWO + ";" + heads[kind] + v[0] + " day " + v[1], 2);
                due("kind", x.claim(0, 0), kind);
                due("ship", x.claim(0, 1), kind == 0 ? 1 : -2);
                due("AMOUNT", x.claim(0, 2), v[0]);
                due("DAY", x.claim(0, 3), v[1]);
            }
            faulty(TWO + ";" + heads[kind] + "0 day 0", 2, at);
            faulty(TWO + ";" + heads[kind] + "0000000 day 0", 2, at);
            faulty(TWO + ";" + heads[kind] + "10000000 day 0", 1, at);
            faulty(TWO + ";" + heads[kind] + "1 day 1000", 2, at + 6);
            String twelve = TWO + many(5, "others 2 day 1") + many(4, "goods al 3 day 1") + many(3, "persons 4 day 1");
            BothToBlame x = good(twelve, 2);
            due("twelve", x.about(1), 12);
            due("the last one", x.claim(11, 2), 4);
            faulty(twelve + ";" + heads[kind] + "1 day 1", 4, twelve.length() + 1);
        }
    }

    private static void numbers() {
        says("rate WHOLE | lives WHOLE (0 .. 99,999; 100, 200 without)");
        law("rate", 5, 0, 99999, 100);
        law("lives", 6, 0, 99999, 200);
        says("least WHOLE (1 .. 99,999; 300)");
        law("least", 7, 1, 99999, 300);
        says("due WHOLE | last WHOLE (0 .. 999; 365, 730)");
        due("DUE without", good(TWO, 2).about(8), 365);
        due("LAST without", good(TWO, 2).about(9), 730);
        due("DUE 0", good(TWO + ";due 0", 2).about(8), 0);
        due("DUE 999", good(TWO + ";last 999;due 999", 2).about(8), 999);
        due("LAST 0", good(TWO + ";due 0;last 0", 2).about(9), 0);
        due("LAST 999", good(TWO + ";last 999", 2).about(9), 999);
        faulty(TWO + ";due 1000", 2, END + 5);
        faulty(TWO + ";last 1000", 2, END + 6);

        says(": each of these once.");
        String[] each = {"equal", "whole", "cross", "rate 7", "lives 7", "least 7", "due 7", "last 777"};
        for (String line : each) {
            faulty(TWO + ";" + line + ";" + line, 3, END + line.length() + 2);
            faulty(line + ";" + TWO + ";" + line, 3, END + line.length() + 2);
            BothToBlame x = good(TWO + ";" + line, 2);
            due("once in the next text, too", x.text(feed(x, TWO + ";" + line)), 2);
        }
        good(TWO + ";" + String.join(";", each), 2);
    }

    private static void law(String word, int what, int low, int high, int without) {
        due(word + " without", good(TWO, 2).about(what), without);
        due(word + " least", good(TWO + ";" + word + " " + low, 2).about(what), low);
        due(word + " most", good(TWO + ";" + word + " " + high, 2).about(what), high);
        if (low > 0) {
            faulty(TWO + ";" + word + " " + (low - 1), 2, END + word.length() + 2);
        }
        faulty(TWO + ";" + word + " " + (high + 1), 2, END + word.length() + 2);
        faulty(TWO + ";" + word + " 9999999", 2, END + word.length() + 2);
    }

    private static void names() {
        says("A NAME is a WORD of 1 to 6 letters but ship, tons, fault, hull, value, clause, barred, goods, day, equal, whole,"
                + " cross, rate, lives, least, due, last, others (persons has 7)");
        for (String name : new String[] {"a", "z", "abcdef", "zzzzzz", "person", "ships", "shi", "other", "law", "dayss"}) {
            BothToBlame x = good(with(ship(name, 6)) + ";goods " + name + " 5 day 5", 2);
            due("goods on " + name, x.claim(0, 1), 0);
            for (int k = 0; k < name.length(); k++) {
                due("letter " + k + " of " + name, x.letter(0, k), name.charAt(k) - 'a');
            }
        }
        for (String name : KEPT) {
            faulty("ship " + name + " tons 1 fault 10 hull 0 value 0", 1, 5);
            faulty(TWO + ";goods " + name + " 5 day 5", 1, END + 7);
        }
        for (String name : new String[] {"persons", "abcdefg", "abcdefgh", "5", "Al", "_"}) {
            faulty("ship " + name + " tons 1 fault 10 hull 0 value 0", 1, 5);
            faulty(TWO + ";goods " + name + " 5 day 5", 1, END + 7);
        }
        says("each told once.");
        faulty(TWO + ";" + ship("al", 0), 3, END + 6);
        faulty(TWO + ";" + ship("bo", 0), 3, END + 6);
        good(TWO + ";" + ship("a", 0) + ";" + ship("ala", 0), 4);
    }

    // ---- faults

    private static void order() {
        says("Told is the first TOKEN, from the left, at which one is found");
        faulty("ship a tons 0 fault 11", 2, 12);
        faulty("ship a tons 5 fault 11 !", 2, 20);
        faulty("ship a tons ! fault 11", 1, 12);
        faulty(TWO + ";goods zz 0 day 1000", 3, END + 7);
        faulty(TWO + ";goods al 0 day x", 2, END + 10);
        faulty(TWO + ";cross;cross;rate 100000", 3, END + 7);
        faulty(TWO + ";rate 100000;cross;cross", 2, END + 6);
        faulty(FOUR + ";ship al tons 0", 4, FOUR.length() + 1);
        faulty(TWO + many(12, "others 1 day 1") + ";goods zz 0 day 1000", 4, END + 12 * 15 + 1);
        faulty(ship("a", 3) + ";rate 100000", 2, ship("a", 3).length() + 6);
        faulty(TWO + ";last 5;rate", 1, END + 12);

        says("of one TOKEN the least number");
        faulty("cross;", 1, 6);
        faulty(ship("a", 3) + ";", 1, ship("a", 3).length() + 1);
        faulty(TWO + ";last 5;", 1, END + 8);
        faulty("ship a tons 99999999", 1, 12);
        faulty(TWO + ";rate 5 rate 6", 1, END + 8);
        faulty(TWO + ";cross cross", 1, END + 7);
        faulty(FOUR + " ship al", 1, FOUR.length() + 1);
        faulty(TWO + many(12, "others 1 day 1") + " others", 1, END + 12 * 15 + 1);
        faulty(TWO + ";al 1000000", 1, END + 1);
        faulty(TWO + ";9999999", 1, END + 1);

        says("a TOKEN with which no TEXT goes on (the end: how many bytes there are)");
        faulty("   ", 1, 3);
        faulty("ship", 1, 4);
        faulty("ship   ", 1, 7);
        faulty(TWO + ";rate", 1, END + 5);
        faulty(TWO + ";rate     ", 1, END + 10);
        faulty(TWO + ";tons 5", 1, END + 1);
        faulty(TWO + ";al", 1, END + 1);
        for (String word : new String[] {"tons", "fault", "hull", "value", "clause", "barred", "day", "al", "abcdefg"}) {
            faulty(word + ";" + TWO, 1, 0);
        }
    }

    private static void kinds() {
        says("2 a WHOLE that isn't within its bounds.");
        faulty("ship a tons 0", 2, 12);
        faulty("ship a tons 100000", 2, 12);
        faulty("ship a tons 9 fault 11", 2, 20);

        says("3 a NAME told again as a SHIP, a NAME of no SHIP told ahead for goods; a LAW or number told again, at that WORD.");
        faulty(TWO + ";ship bo", 3, END + 6);
        faulty(TWO + ";goods a 5 day 5", 3, END + 7);
        faulty(TWO + ";goods all 5 day 5", 3, END + 7);
        faulty(TWO + ";goods c 5 day 5;" + ship("c", 0), 3, END + 7);
        faulty("goods al 5 day 5;" + TWO, 3, 6);
        faulty(TWO + ";least 5;least 0", 3, END + 9);

        says("4 a fifth ship, a 13th CLAIM, at that WORD.");
        faulty(FOUR + ";ship e tons 1 fault 0 hull 0 value 0", 4, FOUR.length() + 1);
        faulty(FOUR + "; ship", 4, FOUR.length() + 2);
        faulty(TWO + many(12, "others 1 day 1") + ";persons", 4, END + 12 * 15 + 1);
        faulty(TWO + many(12, "goods al 1 day 1") + ";goods", 4, END + 12 * 17 + 1);
        faulty(TWO + many(12, "persons 1 day 1") + ";others", 4, END + 12 * 16 + 1);

        says("5 at the end (its place as of 1): fewer than two SHIPS, FAULTS not ten together, LAST below DUE.");
        faulty("equal ", 5, 6);
        faulty(ship("a", 10) + "   ", 5, ship("a", 10).length() + 3);
        for (int tenths : new int[] {0, 1, 5, 7, 10}) {
            String text = TWO.replace("fault 6", "fault " + tenths);
            faulty(text, 5, text.length());
        }
        good(TWO.replace("fault 6", "fault 06"), 2);
        faulty(FOUR.replace("c tons 1 fault 0", "c tons 1 fault 1"), 5, FOUR.length());
        good(FOUR.replace("fault 6", "fault 4").replace("c tons 1 fault 0", "c tons 1 fault 2"), 4);
        good(TWO + ";last 365", 2);
        faulty(TWO + ";last 364", 5, END + 9);
        good(TWO + ";due 730", 2);
        faulty(TWO + ";due 731", 5, END + 8);
        good(TWO + ";last 10;due 10", 2);
        faulty(TWO + ";last 10;due 11", 5, END + 15);
        faulty(TWO + ";due 11;last 10 ", 5, END + 16);
    }

    // ---- the calls

    private static void textCall() {
        says("The first n bytes of THE TAPE (it is empty then) are THE TEXT: how many SHIPS.");
        BothToBlame x = new BothToBlame();
        feed(x, TWO + "!" + " ".repeat(40));
        due("text()", x.text(END), 2);
        due("it is empty then", x.size(), 0);
        feed(x, "cross" + " ".repeat(10));
        x.text(5);
        due("empty by a fault, too", x.size(), 0);
        due("what was behind is gone", x.text(feed(x, TWO)), 2);
        feed(x, TWO + ";rate 55");
        due("text() up to the first digit", x.text(END + 7), 2);
        due("RATE", x.about(5), 5);
        feed(x, TWO + "0".repeat(9) + "!");
        due("text() up to the seventh digit", x.text(END + 4), 2);
        due("VALUE", x.ship(1, 3), 4000000);
        due("with marks", x.text(feed(x, TWO.replace("600", "600 clause barred") + " clause barred;equal;whole;cross;rate 1")), 2);
        due("without", x.text(feed(x, TWO)), 2);
        for (int what = 4; what <= 5; what++) {
            due("no mark of an earlier TEXT", x.ship(0, what) + x.ship(1, what), 0);
        }
        due("no LAW of an earlier TEXT", x.about(2) + x.about(3) + x.about(4), 0);
        due("no number of an earlier TEXT", x.about(5), 100);
        due("with a claim", x.text(feed(x, TWO + ";others 5 day 5")), 2);
        due("without", x.text(feed(x, TWO)), 2);
        due("no CLAIM of an earlier TEXT", x.about(1), 0);
        x = new BothToBlame();
        feed(x, TWO + ";" + ship("c", 0));
        due("three ships, all bytes", x.text(x.size()), 3);

        says("NONE: 2 (n); 4.");
        x = told(TWO);
        feed(x, TWO + ";cross");
        int size = x.size();
        for (int n : new int[] {-1, LEAST_INT, size + 1, MOST_INT, 601}) {
            none(x, "text(" + n + ")", x.text(n), 2);
            due("THE TAPE stays", x.size(), size);
            due("no FAULT", x.fault(), 0);
        }
        due("as it was", x.about(4), 0);
        due("the tape can still be read", x.text(END + 6), 2);
        due("as told now", x.about(4), 1);
        none(x, "text(1) of an empty tape", x.text(1), 2);
        due("text(0) of an empty tape", x.text(0), -1);
        due("is a FAULT", x.trouble(), 4);
        due("of FORM", x.fault(), 1);
        due("at the end", x.where(), 0);

        says("The FAULT of the latest text() not refused by 2; 0 without one, ahead of any.");
        x = new BothToBlame();
        due("ahead of any", x.fault(), 0);
        none(x, "text(5)", x.text(5), 2);
        due("by 2, ahead of any", x.fault(), 0);
        String[] texts = {"!", "ship a tons 0", "cross;cross", FOUR + ";ship", "cross"};
        for (int fault = 1; fault <= 5; fault++) {
            x.text(feed(x, texts[fault - 1]));
            due("fault()", x.fault(), fault);
            none(x, "text(-1)", x.text(-1), 2);
            due("not by 2", x.fault(), fault);
            x.about(0);
            due("other calls leave it", x.fault(), fault);
        }
        x.text(feed(x, TWO));
        due("0 without one", x.fault(), 0);

        says("Its place, if the latest call that may be refused was by 4; NONE else.");
        x = new BothToBlame();
        due("ahead of any", x.where(), -1);
        x.text(feed(x, "cross !"));
        due("its place", x.where(), 6);
        due("it stays when told", x.where(), 6);
        x.feed(0, 0, 0, 0, 0);
        x.size();
        x.fault();
        x.trouble();
        due("these may not be refused", x.where(), 6);
        none(x, "about(0)", x.about(0), 1);
        feed(x, " !");
        none(x, "text(-1)", x.text(-1), 2);
        x.text(x.size());
        due("by 4 behind 2", x.where(), 0);
        x.text(feed(x, "cross;;"));
        due("by 4 again", x.where(), 6);
        due("text()", x.text(feed(x, TWO)), 2);
        due("not refused", x.where(), -1);
    }

    private static void newObject() {
        says("No TEXT.");
        BothToBlame x = new BothToBlame();
        due("trouble()", x.trouble(), 0);
        due("fault()", x.fault(), 0);
        due("where()", x.where(), -1);
        due("size()", x.size(), 0);
        none(x, "about(0)", x.about(0), 1);
        none(x, "enough()", x.enough(), 1);
        nothing(x, "all()", x.all(), 1);
        none(x, "undo()", x.undo(), 1);
        no(x, "image(0)", x.image(0), 1);
        no(x, "again(0)", x.again(0), 1);
        x.text(feed(x, "cross"));
        none(x, "about(0) behind a faulty text", x.about(0), 1);
    }

    public static void main(String[] args) {
        newObject();
        tape();
        calls();
        blanks();
        rows();
        everyByte();
        tooMany();
        lines();
        forms();
        ships();
        claims();
        numbers();
        names();
        order();
        kinds();
        textCall();
        end("each sentence about texts holds");
    }
}
