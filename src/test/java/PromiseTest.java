import java.util.NoSuchElementException;

/** Each promise of the document by its number, with answers reckoned by hand. */
public final class PromiseTest extends Checks {
    private static final String SHIPS = "ship a tons 1000 fault 5 hull 900 value 1000 clause;"
            + "ship bcdefg tons 500 fault 3 hull 600 value 200;ship cz tons 100 fault 2 hull 300 value 0";
    private static final String THREE = SHIPS + ";goods a 700 day 10;persons 1000 day 365;others 101 day 366;"
            + "goods cz 90 day 731;whole;cross;rate 1;lives 1;least 400";

    private static void newObject() {
        promise(1);
        BothToBlame x = new BothToBlame();
        due("size()", x.size(), 0);
        due("trouble()", x.trouble(), 0);
        due("where()", x.where(), -1);
        due("fault()", x.fault(), 0);
        none(x, "about(0)", x.about(0), 1);
        none(x, "ship", x.ship(0, 0), 1);
        none(x, "claim", x.claim(0, 0), 1);
        none(x, "part", x.part(0, -1), 1);
        none(x, "owes", x.owes(0, 0), 1);
        none(x, "between", x.between(0, 0, 0), 1);
        none(x, "back", x.back(0), 1);
        none(x, "fund", x.fund(0, 0), 1);
        none(x, "pays", x.pays(0, 0), 1);
        none(x, "paysTo", x.paysTo(0, 0), 1);
        none(x, "sum", x.sum(0, 0), 1);
        none(x, "bites", x.bites(0), 1);
        none(x, "gets", x.gets(0, 0), 1);
        none(x, "cover", x.cover(0, 0), 1);
        nothing(x, "net", x.net(0), 1);
        nothing(x, "netBy", x.netBy(0, 9), 1);
        none(x, "wished", x.wished(0), 1);
        nothing(x, "gap", x.gap(0), 1);
        none(x, "enough", x.enough(), 1);
        nothing(x, "would", x.would(0, 0, -1), 1);
        none(x, "worse", x.worse(0, 0, MOST_INT), 1);
        nothing(x, "judged", x.judged(0, 0, 0, 0), 1);
        nothing(x, "all", x.all(), 1);
        none(x, "shift", x.shift(0, 0, 0), 1);
        none(x, "file", x.file(1, 0, 0, -1), 1);
        none(x, "withdraw", x.withdraw(0), 1);
        none(x, "become", x.become(0, 0, -1), 1);
        none(x, "law", x.law(5, -1), 1);
        none(x, "undo", x.undo(), 1);
        refused(x, "image", x.image(0) ? 1 : 0, 0, 1);
        refused(x, "again", x.again(0) ? 1 : 0, 0, 1);
        due("NONE", BothToBlame.NONE, -1);
        due("NOTHING", BothToBlame.NOTHING, NOTHING);
    }

    private static void feeds() {
        promise(2);
        BothToBlame x = new BothToBlame();
        x.about(0);
        for (int f = 1; f <= 30; f++) {
            due("feed " + f, x.feed(-1, 0, 0, 0, 0), 20 * f);
        }
        due("feed beyond", x.feed(0, 0, 0, 0, 0), -1);
        due("size()", x.size(), 600);
        due("trouble() stays", x.trouble(), 1);
        due("text(600)", x.text(600), -1);
        due("where()", x.where(), 0);
        due("feed leaves where()", x.feed(0x73686970, 0x20202020, 0x20202020, 0x20202020, 0x2020203b), 20);
        due("where() stays", x.where(), 0);
        due("trouble() stays by 4", x.trouble(), 4);
        due("text(20): highest byte first", x.text(20), -1);
        due("where()", x.where(), 19);
    }

    private static void texts() {
        promise(3);
        BothToBlame x = new BothToBlame();
        int n = feed(x, TWO + " !");
        none(x, "text(-1)", x.text(-1), 2);
        none(x, "text beyond", x.text(x.size() + 1), 2);
        none(x, "text least", x.text(LEAST_INT), 2);
        due("size() as it was", x.size(), 100);
        due("text", x.text(n - 2), 2);
        due("size()", x.size(), 0);
        due("text(0)", x.text(0), -1);
        due("text(0): trouble", x.trouble(), 4);
        due("text(0): fault", x.fault(), 1);
        due("text(0): where", x.where(), 0);
        good(TWO, 2);
        good(THREE, 3);
        good("  " + TWO.replace(" ", "  ").replace(";", " ; ") + "   ", 2);
        good("ship a tons1fault0010hull0value9999999clause barred;ship b tons99999fault0hull9999999value0barred", 2);
        good(TWO + ";rate 0;lives 99999;least 1;due 0;last 0;equal;whole;cross", 2);
        good(TWO + ";rate 99999;lives 0;least 99999;due 999;last 999", 2);
        good(TWO + ";last 1;due 1", 2);
        good("ship person tons 1 fault 5 hull 1 value 1;ship ships tons 1 fault 5 hull 1 value 1;goods ships 1 day 999", 2);
        good("equal;" + TWO + many(12, "others 9999999 day 0"), 2);
        good(TWO.replace("6", "06").replace("4", "1") + many(1, "ship c tons 1 fault 3 hull 0 value 0")
                + many(1, "ship d tons 1 fault 0 hull 0 value 0"), 4);
    }

    private static void faults() {
        promise(4);
        faulty("", 1, 0);
        faulty("   ", 1, 3);
        faulty(";" + TWO, 1, 0);
        faulty("al", 1, 0);
        faulty("7", 1, 0);
        faulty("Ship", 1, 0);
        faulty("ship", 1, 4);
        faulty("ship ship", 1, 5);
        faulty("ship abcdefg tons 5", 1, 5);
        faulty("ship persons tons 5", 1, 5);
        faulty("ship abcdefgh tons 5", 1, 5);
        faulty("ship others tons 5", 1, 5);
        faulty("ship a fault 5", 1, 7);
        faulty("ship a1tons1", 1, 6);
        faulty("ship a tons x", 1, 12);
        faulty("ship a tons 0", 2, 12);
        faulty("ship a tons 100000", 2, 12);
        faulty("ship a tons 12345678", 1, 12);
        faulty("ship a tons 5 fault 11", 2, 20);
        faulty("ship a tons 5 fault 11!", 2, 20);
        faulty("ship a tons 5 fault -1", 1, 20);
        faulty(TWO + ";", 1, TWO.length() + 1);
        faulty(TWO + ";  ", 1, TWO.length() + 3);
        faulty(TWO + ";;equal", 1, TWO.length() + 1);
        faulty(TWO + " equal", 1, TWO.length() + 1);
        faulty(TWO + " barred clause", 1, TWO.length() + 8);
        faulty(TWO + " clause clause", 1, TWO.length() + 8);
        faulty(TWO + (char) 233, 1, TWO.length());
        faulty(TWO + "\n", 1, TWO.length());
        faulty(TWO + ";tons 5", 1, TWO.length() + 1);
        faulty(TWO + ";goods al 0 day 0", 2, TWO.length() + 10);
        faulty(TWO + ";goods al 5 day 1000", 2, TWO.length() + 16);
        faulty(TWO + ";goods al 5", 1, TWO.length() + 11);
        faulty(TWO + ";goods 5 day 5", 1, TWO.length() + 7);
        faulty(TWO + ";goods goods 5 day 5", 1, TWO.length() + 7);
        faulty(TWO + ";persons al 5 day 5", 1, TWO.length() + 9);
        faulty(TWO + ";rate 100000", 2, TWO.length() + 6);
        faulty(TWO + ";lives 100000", 2, TWO.length() + 7);
        faulty(TWO + ";least 0", 2, TWO.length() + 7);
        faulty(TWO + ";due 1000", 2, TWO.length() + 5);
        faulty(TWO + ";last 1000", 2, TWO.length() + 6);
        faulty(TWO + ";equal 1", 1, TWO.length() + 7);
        faulty(TWO + ";ship al tons 1", 3, TWO.length() + 6);
        faulty(TWO + ";goods c 5 day 5", 3, TWO.length() + 7);
        faulty("ship a tons 1 fault 10 hull 1 value 1;goods b 1 day 1;ship b tons 1 fault 0 hull 1 value 1", 3, 44);
        faulty(TWO + ";equal;equal", 3, TWO.length() + 7);
        faulty(TWO + ";rate 5;whole;rate 100000", 3, TWO.length() + 14);
        faulty(TWO + ";due 1;due 2", 3, TWO.length() + 7);
        String four = TWO + ";ship c tons 1 fault 0 hull 0 value 0;ship d tons 1 fault 0 hull 0 value 0";
        faulty(four + ";ship al", 4, four.length() + 1);
        faulty(TWO + many(13, "others 1 day 1"), 4, TWO.length() + 12 * 15 + 1);
        faulty(TWO + many(12, "others 1 day 1") + ";goods zz 0", 4, TWO.length() + 12 * 15 + 1);
        faulty("equal", 5, 5);
        faulty("ship a tons 1 fault 10 hull 0 value 0 ", 5, 38);
        faulty(TWO.replace("fault 6", "fault 7"), 5, TWO.length());
        faulty(TWO.replace("fault 6", "fault 5") + "  ", 5, TWO.length() + 2);
        faulty(TWO + ";due 731", 5, TWO.length() + 8);
        faulty(TWO + ";last 364;rate 0", 5, TWO.length() + 16);
        BothToBlame x = told(TWO);
        due("fault() of a good text", x.fault(), 0);
        feed(x, "equal");
        x.text(5);
        due("fault()", x.fault(), 5);
        none(x, "text(1)", x.text(1), 2);
        due("fault() not by 2", x.fault(), 5);
        int n = feed(x, TWO);
        due("text", x.text(n), 2);
        due("fault() again 0", x.fault(), 0);
    }

    private static void places() {
        promise(5);
        BothToBlame x = told(TWO);
        due("where()", x.where(), -1);
        feed(x, "equal ! ");
        x.text(8);
        due("where()", x.where(), 6);
        x.size();
        x.fault();
        x.trouble();
        feed(x, "equal");
        try {
            x.letter(9, 9);
            due("letter(9, 9) throws", 0, 1);
        } catch (NoSuchElementException e) {
            due("where() stays", x.where(), 6);
            due("trouble() stays", x.trouble(), 4);
        }
        due("net", x.net(0), -900);
        due("where() gone", x.where(), -1);
    }

    private static void whatIsTold() {
        promise(6);
        BothToBlame x = told(THREE);
        int[] about = {3, 4, 0, 1, 1, 1, 1, 400, 365, 730, 0};
        for (int what = 0; what < about.length; what++) {
            due("about(" + what + ")", x.about(what), about[what]);
        }
        none(x, "about(11)", x.about(11), 1);
        none(x, "about(-1)", x.about(-1), 1);
        x = told(TWO + ";equal;due 7;last 8;lives 9");
        int[] other = {2, 0, 1, 0, 0, 100, 9, 300, 7, 8, 0};
        for (int what = 0; what < other.length; what++) {
            due("about(" + what + ")", x.about(what), other[what]);
        }
        promise(7);
        x = told(THREE + ";equal");
        int[][] ships = {{1000, 5, 900, 1000, 1, 0, 1}, {500, 3, 600, 200, 0, 0, 1}, {100, 2, 300, 0, 0, 0, 1}};
        for (int i = 0; i < 3; i++) {
            for (int what = 0; what < 7; what++) {
                due("ship(" + i + ", " + what + ")", x.ship(i, what), ships[i][what]);
            }
        }
        none(x, "ship(3, 0)", x.ship(3, 0), 1);
        none(x, "ship(-1, 0)", x.ship(-1, 0), 1);
        none(x, "ship(0, 7)", x.ship(0, 7), 1);
        none(x, "ship(0, -1)", x.ship(0, -1), 1);
        x = told("ship a tons 5 fault 10 hull 0 value 0 clause barred;ship b tons 6 fault 0 hull 0 value 0 barred;equal");
        due("CLAUSE", x.ship(0, 4), 1);
        due("BARRED", x.ship(0, 5), 1);
        due("no CLAUSE", x.ship(1, 4), 0);
        due("BARRED alone", x.ship(1, 5), 1);
        due("WEIGHT 0 by EQUAL", x.ship(1, 6), 0);
        due("WEIGHT 1 by EQUAL", x.ship(0, 6), 1);
        promise(8);
        x = told(THREE);
        int[][] claims = {{0, 0, 700, 10, 0}, {1, -2, 1000, 365, 0}, {2, -2, 101, 366, 1}, {0, 2, 90, 731, -2}};
        for (int k = 0; k < 4; k++) {
            for (int what = 0; what < 5; what++) {
                due("claim(" + k + ", " + what + ")", x.claim(k, what), claims[k][what]);
            }
        }
        none(x, "claim(4, 0)", x.claim(4, 0), 1);
        none(x, "claim(-1, 0)", x.claim(-1, 0), 1);
        none(x, "claim(0, 5)", x.claim(0, 5), 1);
        none(x, "claim(0, -1)", x.claim(0, -1), 1);
        due("round on the last day", told(TWO + ";others 1 day 730").claim(0, 4), 1);
    }

    private static void debts() {
        promise(9);
        BothToBlame x = told(THREE);
        due("part", x.part(0, 9999999), 4999999);
        due("part", x.part(1, 7), 2);
        due("part", x.part(2, 0), 0);
        none(x, "part(3, -1)", x.part(3, -1), 1);
        none(x, "part(0, -1)", x.part(0, -1), 2);
        none(x, "part(0, 10000000)", x.part(0, 10000000), 2);
        x.law(2, 1);
        due("part by EQUAL", x.part(2, 100), 33);
        promise(10);
        x = told(THREE);
        long[][] owed = {{0, 500, 50, 0}, {420, 300, 30, 0}, {280, 200, 20, 0}};
        for (int i = 0; i < 3; i++) {
            for (int k = 0; k < 4; k++) {
                due("owes(" + i + ", " + k + ")", x.owes(i, k), owed[i][k]);
            }
        }
        none(x, "owes(3, 0)", x.owes(3, 0), 1);
        none(x, "owes(0, 4)", x.owes(0, 4), 1);
        none(x, "owes(-1, 0)", x.owes(-1, 0), 1);
        none(x, "owes(0, -1)", x.owes(0, -1), 1);
        x.law(3, 0);
        due("owes its part", x.owes(1, 0), 210);
        x = told("ship a tons 5 fault 10 hull 7 value 0;ship b tons 6 fault 0 hull 9 value 0;goods a 5 day 5;whole");
        due("all weights but that of the ship are 0", x.owes(1, 0), 0);
        due("no back then", x.back(0), 0);
        promise(11);
        x = told(THREE);
        long[][] pairs = {{0, 1, 300, 210, 510, 510, 240}, {1, 0, 270, 0, 270, 270, 0}, {0, 2, 150, 140, 290, 290, 110},
            {2, 0, 180, 0, 180, 180, 0}, {1, 2, 90, 0, 90, 90, 0}, {2, 1, 120, 0, 120, 120, 30}};
        for (long[] p : pairs) {
            for (int what = 0; what < 4; what++) {
                due("between " + p[0] + " " + p[1] + " " + what, x.between((int) p[0], (int) p[1], what), p[2 + what]);
            }
        }
        none(x, "between(1, 1, 4)", x.between(1, 1, 4), 1);
        none(x, "between(1, 1, -1)", x.between(1, 1, -1), 1);
        none(x, "between(1, 1, 3)", x.between(1, 1, 3), 5);
        none(x, "between(0, 3, 0)", x.between(0, 3, 0), 1);
        none(x, "between(3, 3, 0)", x.between(3, 3, 0), 1);
        none(x, "between(-1, 0, 0)", x.between(-1, 0, 0), 1);
        x.law(4, 0);
        for (long[] p : pairs) {
            due("single " + p[0] + " " + p[1], x.between((int) p[0], (int) p[1], 3), p[6]);
            due("together " + p[0] + " " + p[1], x.between((int) p[0], (int) p[1], 2), p[4]);
        }
        promise(12);
        due("back(0)", x.back(0), 350);
        due("back(1) of persons", x.back(1), 0);
        due("back(2) of others", x.back(2), 0);
        due("back(3) behind LAST", x.back(3), 0);
        none(x, "back(4)", x.back(4), 1);
        none(x, "back(-1)", x.back(-1), 1);
        x.law(3, 0);
        due("back without WHOLE", x.back(0), 0);
    }

    private static void payments() {
        promise(13);
        BothToBlame x = told(THREE + ";due 0");
        due("fund(0, 0)", x.fund(0, 0), 1000);
        due("fund(2, 1) by LEAST", x.fund(2, 1), 400);
        none(x, "fund(3, 0)", x.fund(3, 0), 1);
        none(x, "fund(0, 2)", x.fund(0, 2), 1);
        none(x, "fund(0, -1)", x.fund(0, -1), 1);
        x = told("ship a tons 20000 fault 5 hull 1 value 1;ship b tons 20001 fault 5 hull 1 value 1;rate 99999;lives 0");
        due("fund at most", x.fund(0, 1), 1999980000);
        due("fund at most", x.fund(1, 1), 2000000000);
        due("fund of nothing", x.fund(1, 0), 0);
        promise(14);
        x = told(THREE);
        long[][] paid = {{0, 500, 50, 0}, {269, 300, 0, 0}, {193, 200, 0, 0}};
        for (int i = 0; i < 3; i++) {
            for (int k = 0; k < 4; k++) {
                due("pays(" + i + ", " + k + ")", x.pays(i, k), paid[i][k]);
            }
        }
        none(x, "pays(3, 0)", x.pays(3, 0), 1);
        none(x, "pays(0, 4)", x.pays(0, 4), 1);
        promise(15);
        long[][] to = {{0, 510, 290}, {174, 0, 57}, {125, 82, 0}};
        for (int i = 0; i < 3; i++) {
            for (int j = 0; j < 3; j++) {
                if (i != j) {
                    due("paysTo(" + i + ", " + j + ")", x.paysTo(i, j), to[i][j]);
                }
            }
        }
        none(x, "paysTo(1, 1)", x.paysTo(1, 1), 5);
        none(x, "paysTo(3, 3)", x.paysTo(3, 3), 1);
        none(x, "paysTo(0, -1)", x.paysTo(0, -1), 1);
        promise(16);
        long[][] sums = {{1350, 1350}, {1110, 800}, {800, 600}};
        for (int i = 0; i < 3; i++) {
            due("sum(" + i + ", 0)", x.sum(i, 0), sums[i][0]);
            due("sum(" + i + ", 1)", x.sum(i, 1), sums[i][1]);
            promise(17);
            due("bites(" + i + ")", x.bites(i), i == 0 ? 0 : 1);
            promise(16);
        }
        none(x, "sum(3, 0)", x.sum(3, 0), 1);
        none(x, "sum(0, 2)", x.sum(0, 2), 1);
        none(x, "sum(0, -1)", x.sum(0, -1), 1);
        promise(17);
        none(x, "bites(3)", x.bites(3), 1);
        none(x, "bites(-1)", x.bites(-1), 1);
        promise(18);
        long[][] gets = {{112, 350, 462}, {1000, 0, 1000}, {50, 0, 50}, {0, 0, 0}};
        for (int k = 0; k < 4; k++) {
            for (int what = 0; what < 3; what++) {
                due("gets(" + k + ", " + what + ")", x.gets(k, what), gets[k][what]);
            }
        }
        none(x, "gets(4, 0)", x.gets(4, 0), 1);
        none(x, "gets(0, 3)", x.gets(0, 3), 1);
        none(x, "gets(0, -1)", x.gets(0, -1), 1);
        x.become(0, 4, 0);
        due("nothing given back without the clause", x.gets(0, 1), 0);
        x.undo();
        x.law(5, 0);
        due("nothing paid to goods, nothing given back", x.gets(0, 1), 0);
        promise(19);
        x = told(THREE);
        long[][] covers = {{637, 713}, {150, 650}, {0, 600}};
        for (int i = 0; i < 3; i++) {
            due("cover(" + i + ", 0)", x.cover(i, 0), covers[i][0]);
            due("cover(" + i + ", 1)", x.cover(i, 1), covers[i][1]);
        }
        none(x, "cover(3, 0)", x.cover(3, 0), 1);
        none(x, "cover(0, 2)", x.cover(0, 2), 1);
        none(x, "cover(0, -1)", x.cover(0, -1), 1);
    }

    private static void sharing() {
        promise(14);
        // One ship to blame alone; its lives fund has 10, its rate fund 10.
        BothToBlame x = told("ship a tons 10 fault 10 hull 0 value 0;ship b tons 1 fault 0 hull 4 value 0;least 1;rate 1;"
                + "lives 1;others 3 day 0;persons 7 day 0;persons 7 day 0;persons 9 day 400;goods b 6 day 365");
        // Lives: 14 are due of 10: 5 and 5; the later 9 find nothing. Rate: 4, 3, 2, 2, 6 are 17 of 10:
        // 2, 1, 1, 1, 3, and the two that are left to the ship and to the first claim.
        due("ship", x.paysTo(0, 1), 3);
        due("others", x.pays(0, 0), 2);
        due("persons", x.pays(0, 1), 6);
        due("persons", x.pays(0, 2), 6);
        due("persons later", x.pays(0, 3), 0);
        due("goods", x.pays(0, 4), 3);
        due("owed", x.sum(0, 0), 36);
        due("paid", x.sum(0, 1), 20);
        x.become(0, 0, 17);
        // Lives: 14 of 17, then 3 of 9; rate: 13 of 17, then 4 of 6.
        due("persons in time", x.pays(0, 2), 7);
        due("persons later, both funds", x.pays(0, 3), 7);
        due("all else", x.sum(0, 1), 34);
        x.become(0, 5, 1);
        due("barred pays all", x.sum(0, 1), 36);
        due("barred does not bite", x.bites(0), 0);
        x.law(9, 399);
        due("behind LAST", x.pays(0, 3), 0);
        due("owed by the barred", x.sum(0, 0), 27);
    }

    private static void nets() {
        promise(20);
        BothToBlame x = told(THREE);
        long[] nets = {-1601, -808, -553};
        for (int i = 0; i < 3; i++) {
            due("net(" + i + ")", x.net(i), nets[i]);
        }
        nothing(x, "net(3)", x.net(3), 1);
        nothing(x, "net(-1)", x.net(-1), 1);
        promise(21);
        for (int i = 0; i < 3; i++) {
            due("netBy as it is", x.netBy(i, 6), nets[i]);
        }
        long[][] by = new long[3][8];
        for (int laws = 0; laws < 8; laws++) {
            x = told(THREE);
            x.law(2, laws & 1);
            x.law(3, laws >> 1 & 1);
            x.law(4, laws >> 2);
            for (int i = 0; i < 3; i++) {
                by[i][laws] = x.net(i);
            }
        }
        x = told(THREE);
        for (int i = 0; i < 3; i++) {
            int best = 0;
            for (int laws = 0; laws < 8; laws++) {
                due("netBy(" + i + ", " + laws + ")", x.netBy(i, laws), by[i][laws]);
                best = by[i][laws] > by[i][best] ? laws : best;
            }
            promise(22);
            due("wished(" + i + ")", x.wished(i), best);
            promise(23);
            due("gap(" + i + ")", x.gap(i), by[i][6] - by[i][2]);
            promise(21);
        }
        due("laws as they were", x.about(2) * 100 + x.about(3) * 10 + x.about(4), 11);
        nothing(x, "netBy(3, 8)", x.netBy(3, 8), 1);
        nothing(x, "netBy(0, 8)", x.netBy(0, 8), 2);
        nothing(x, "netBy(0, -1)", x.netBy(0, -1), 2);
        promise(22);
        none(x, "wished(3)", x.wished(3), 1);
        due("of like ones the least", told("ship a tons 1 fault 5 hull 0 value 0;ship b tons 1 fault 5 hull 0 value 0")
                .wished(1), 0);
        promise(23);
        nothing(x, "gap(3)", x.gap(3), 1);
        nothing(x, "gap(-1)", x.gap(-1), 1);
        promise(24);
        due("enough()", x.enough(), 2);
        x.law(6, 0);
        // Persons lack all: 1350 by 1000, 1110 by 500, 800 by 400.
        due("enough() without lives", x.enough(), 3);
        x.become(1, 5, 1);
        due("enough() but for the barred", x.enough(), 2);
        x = told("ship a tons 1 fault 10 hull 0 value 0;ship b tons 1 fault 0 hull 99999 value 0;least 1;rate 0");
        due("enough() at most", x.enough(), 99999);
        x.become(1, 2, 100000);
        due("enough() none", x.enough(), -2);
        due("enough() none is no trouble", x.trouble(), 0);
        x.become(0, 5, 1);
        due("enough() nothing to pay", x.enough(), 0);
        promise(28);
        x = told(THREE);
        due("all()", x.all(), -1800);
    }

    private static void tenths() {
        promise(25);
        BothToBlame x = told(THREE);
        for (int f = 0; f <= 8; f++) {
            BothToBlame y = told(THREE.replace("fault 3", "fault " + (8 - f)).replaceFirst("fault 5", "fault " + f));
            due("would(0, 1, " + f + ")", x.would(0, 1, f), y.net(0));
            due("would(1, 0, " + f + ")", x.would(1, 0, 8 - f), y.net(1));
        }
        due("as it is", x.would(0, 1, 5), -1601);
        due("tenths as they were", x.ship(0, 1), 5);
        nothing(x, "would(0, 1, 9)", x.would(0, 1, 9), 2);
        nothing(x, "would(0, 1, -1)", x.would(0, 1, -1), 2);
        nothing(x, "would(1, 1, -1)", x.would(1, 1, -1), 5);
        nothing(x, "would(0, 3, 1)", x.would(0, 3, 1), 1);
        nothing(x, "would(3, 3, 1)", x.would(3, 3, 1), 1);
        promise(26);
        x = told(TWO);
        // By 100 and 1000, 500 lost the first is left with -150 a tenth.
        due("worse", x.worse(0, 1, -900), 7);
        due("worse", x.worse(0, 1, -899), 6);
        due("worse", x.worse(0, 1, 1), 0);
        due("worse", x.worse(0, 1, 1000000000), 0);
        due("worse", x.worse(0, 1, 0), 1);
        due("worse", x.worse(0, 1, -1500), -2);
        due("worse", x.worse(0, 1, -1499), 10);
        due("worse", x.worse(0, 1, -1000000000), -2);
        none(x, "worse(0, 0, 1000000001)", x.worse(0, 0, 1000000001), 2);
        none(x, "worse(0, 1, -1000000001)", x.worse(0, 1, -1000000001), 2);
        none(x, "worse(0, 0, 0)", x.worse(0, 0, 0), 5);
        none(x, "worse(0, 2, 1000000001)", x.worse(0, 2, 1000000001), 1);
        promise(27);
        judges(told(TWO), 1, 50);
        judges(told(TWO + ";ship c tons 1 fault 0 hull 77 value 0;ship d tons 1 fault 0 hull 1 value 0"), 2147483646, 7);
        nothing(x, "judged(2, 0, 1, 0)", x.judged(2, 0, 1, 0), 1);
        nothing(x, "judged(0, 0, 1, 3)", x.judged(0, 0, 1, 3), 1);
        nothing(x, "judged(0, 0, 1, -1)", x.judged(0, 0, 1, -1), 1);
        nothing(x, "judged(0, 0, 1, 0)", x.judged(0, 0, 1, 0), 2);
        nothing(x, "judged(0, 2147483647, 1, 0)", x.judged(0, 2147483647, 1, 0), 2);
        nothing(x, "judged(0, 1, 0, 0)", x.judged(0, 1, 0, 0), 2);
        nothing(x, "judged(0, 1, 51, 0)", x.judged(0, 1, 51, 0), 2);
        due("judged leaves FAULTS", x.ship(0, 1), 6);
    }

    /** Judges drawn here, their tenths told as texts of their own. */
    private static void judges(BothToBlame x, int seed, int n) {
        int ships = x.about(0);
        for (int i = 0; i < ships; i++) {
            long draw = seed;
            long all = 0;
            long least = 0;
            long most = 0;
            for (int judge = 1; judge <= n; judge++) {
                int[] tenths = new int[ships];
                for (int t = 0; t < 10; t++) {
                    draw = draw * 48271 % 2147483647;
                    tenths[(int) (draw % ships)]++;
                }
                StringBuilder text = new StringBuilder();
                for (int s = 0; s < ships; s++) {
                    text.append(s == 0 ? "" : ";").append("ship ").append((char) ('a' + s)).append(" tons ")
                            .append(x.ship(s, 0)).append(" fault ").append(tenths[s]).append(" hull ")
                            .append(x.ship(s, 2)).append(" value 0");
                }
                long left = told(text.toString()).net(i);
                all += left;
                least = judge == 1 ? left : Math.min(least, left);
                most = judge == 1 ? left : Math.max(most, left);
            }
            due("judged together", x.judged(i, seed, n, 0), all);
            due("judged least", x.judged(i, seed, n, 1), least);
            due("judged most", x.judged(i, seed, n, 2), most);
        }
    }

    private static void acts() {
        promise(29);
        BothToBlame x = told(TWO);
        due("shift", x.shift(0, 1, 6), 10);
        due("shift", x.ship(0, 1), 0);
        due("shift", x.shift(1, 0, 10), 10);
        none(x, "shift(0, 2, 0)", x.shift(0, 2, 0), 1);
        none(x, "shift(0, 0, 0)", x.shift(0, 0, 0), 2);
        none(x, "shift(0, 1, 11)", x.shift(0, 1, 11), 2);
        none(x, "shift(0, 0, 1)", x.shift(0, 0, 1), 5);
        none(x, "shift(1, 0, 1)", x.shift(1, 0, 1), 5);
        due("ACTS", x.about(10), 2);
        promise(30);
        x = told(TWO);
        due("file goods", x.file(0, 1, 9999999, 999), 0);
        due("file persons", x.file(1, 77, 1, 0), 1);
        due("file others", x.file(2, LEAST_INT, 5, 400), 2);
        due("goods' ship", x.claim(0, 1), 1);
        due("persons' ship", x.claim(1, 1), -2);
        due("day", x.claim(2, 3), 400);
        none(x, "file(3, 0, 0, 0)", x.file(3, 0, 0, 0), 1);
        none(x, "file(-1, 0, 0, 0)", x.file(-1, 0, 0, 0), 1);
        none(x, "file(0, 2, 0, 0)", x.file(0, 2, 0, 0), 1);
        none(x, "file(0, -1, 0, 0)", x.file(0, -1, 0, 0), 1);
        none(x, "file(0, 0, 0, 0)", x.file(0, 0, 0, 0), 2);
        none(x, "file(0, 0, 10000000, 0)", x.file(0, 0, 10000000, 0), 2);
        none(x, "file(1, 0, 1, -1)", x.file(1, 0, 1, -1), 2);
        none(x, "file(2, 0, 1, 1000)", x.file(2, 0, 1, 1000), 2);
        due("ACTS", x.about(10), 3);
        for (int k = 3; k < 12; k++) {
            due("file", x.file(2, 0, k, k), k);
        }
        none(x, "file(2, 0, 0, 0) full", x.file(2, 0, 0, 0), 2);
        none(x, "file full", x.file(2, 0, 1, 1), 3);
        due("CLAIMS", x.about(1), 12);
        promise(31);
        due("withdraw the last", x.withdraw(11), 11);
        due("withdraw the first", x.withdraw(0), 10);
        due("moved up", x.claim(0, 2), 1);
        due("moved up", x.claim(9, 2), 10);
        none(x, "withdraw(10)", x.withdraw(10), 1);
        none(x, "withdraw(-1)", x.withdraw(-1), 1);
        due("file again", x.file(0, 0, 5, 5), 10);
        promise(32);
        x = told(TWO);
        int[] was = {1000, -1, 1000, 600, 0, 0};
        int[] low = {1, 0, 0, 0, 0, 0};
        int[] high = {99999, 10, 9999999, 9999999, 1, 1};
        for (int what = 0; what < 6; what++) {
            if (what != 1) {
                none(x, "become too little", x.become(0, what, low[what] - 1), 2);
                none(x, "become too much", x.become(0, what, high[what] + 1), 2);
                due("become", x.become(0, what, high[what]), was[what]);
                due("become", x.become(0, what, low[what]), high[what]);
                due("become", x.ship(0, what), low[what]);
            }
        }
        due("ACTS", x.about(10), 10);
        none(x, "become(0, 1, 3)", x.become(0, 1, 3), 1);
        none(x, "become(0, 6, 1)", x.become(0, 6, 1), 1);
        none(x, "become(0, -1, 1)", x.become(0, -1, 1), 1);
        none(x, "become(2, 0, 0)", x.become(2, 0, 0), 1);
        laws();
    }

    private static void laws() {
        promise(33);
        BothToBlame x = told(TWO);
        int[] was = {0, 0, 0, 0, 0, 100, 200, 300, 365, 730};
        int[] low = {0, 0, 0, 0, 0, 0, 0, 1, 0, 365};
        int[] high = {0, 0, 1, 1, 1, 99999, 99999, 99999, 730, 999};
        for (int what = 2; what < 10; what++) {
            due("law", x.law(what, high[what]), was[what]);
            due("law", x.law(what, low[what]), high[what]);
            due("law", x.about(what), low[what]);
            if (what < 8) {
                none(x, "law too little", x.law(what, low[what] - 1), 2);
                none(x, "law too much", x.law(what, high[what] + 1), 2);
            } else {
                none(x, "law too little", x.law(what, -1), 2);
                none(x, "law too much", x.law(what, 1000), 2);
                x.undo();
                x.undo();
            }
        }
        none(x, "LAST below DUE", x.law(8, 731), 5);
        none(x, "LAST below DUE", x.law(9, 364), 5);
        none(x, "law(1, 5)", x.law(1, 5), 1);
        none(x, "law(10, 5)", x.law(10, 5), 1);
        none(x, "law(-1, -5)", x.law(-1, -5), 1);
        promise(34);
        x = told(TWO);
        none(x, "undo() of nothing", x.undo(), 5);
        for (int v = 1; v <= 12; v++) {
            x.law(5, v);
        }
        due("ACTS", x.about(10), 10);
        for (int v = 11; v >= 2; v--) {
            due("undo()", x.undo(), v - 2);
            due("RATE", x.about(5), v);
        }
        none(x, "undo() of the eleventh", x.undo(), 5);
        due("RATE stays", x.about(5), 2);
        x.law(5, 2);
        due("what is set as it was is an ACT", x.about(10), 1);
        x.shift(0, 1, 1);
        x.file(0, 0, 7, 7);
        x.withdraw(0);
        x.become(0, 2, 5);
        due("undo() of become", x.undo(), 4);
        due("HULL", x.ship(0, 2), 1000);
        due("undo() of withdraw", x.undo(), 3);
        due("CLAIM", x.claim(0, 2), 7);
        due("undo() of file", x.undo(), 2);
        due("CLAIMS", x.about(1), 0);
        due("undo() of shift", x.undo(), 1);
        due("FAULT", x.ship(0, 1), 6);
        due("FAULT", x.ship(1, 1), 4);
        feed(x, "equal");
        x.text(5);
        due("a TEXT refused leaves ACTS", x.about(10), 1);
        x.text(feed(x, TWO));
        due("a TEXT leaves no ACT", x.about(10), 0);
        none(x, "undo()", x.undo(), 5);
    }

    private static void images() {
        promise(35);
        BothToBlame x = told(TWO);
        x.law(5, 7);
        due("image(0)", x.image(0), true);
        due("an image is no ACT", x.about(10), 1);
        refused(x, "image(2)", x.image(2) ? 1 : 0, 0, 1);
        refused(x, "image(-1)", x.image(-1) ? 1 : 0, 0, 1);
        promise(36);
        refused(x, "again(1) not kept", x.again(1) ? 1 : 0, 0, 1);
        refused(x, "again(2)", x.again(2) ? 1 : 0, 0, 1);
        refused(x, "again(-1)", x.again(-1) ? 1 : 0, 0, 1);
        due("ACTS as they were", x.about(10), 1);
        x.law(5, 8);
        x.file(0, 0, 9, 9);
        x.shift(0, 1, 1);
        x.become(1, 2, 1);
        due("image(1)", x.image(1), true);
        due("again(0)", x.again(0), true);
        due("no trouble", x.trouble(), 0);
        due("RATE", x.about(5), 7);
        due("CLAIMS", x.about(1), 0);
        due("FAULT", x.ship(0, 1), 6);
        due("HULL", x.ship(1, 2), 500);
        due("no ACT", x.about(10), 0);
        none(x, "undo()", x.undo(), 5);
        x.law(5, 9);
        due("again(0): it stays", x.again(0), true);
        due("RATE", x.about(5), 7);
        due("again(1)", x.again(1), true);
        due("RATE", x.about(5), 8);
        due("CLAIMS", x.about(1), 1);
        due("FAULT", x.ship(0, 1), 5);
        x.law(5, 3);
        due("image(1) anew", x.image(1), true);
        x.undo();
        due("RATE", x.about(5), 8);
        x.again(1);
        due("RATE", x.about(5), 3);
        feed(x, "equal");
        x.text(5);
        due("a TEXT refused leaves IMAGES", x.again(0), true);
        x.text(feed(x, TWO));
        refused(x, "a TEXT leaves no IMAGE", x.again(0) ? 1 : 0, 0, 1);
        refused(x, "a TEXT leaves no IMAGE", x.again(1) ? 1 : 0, 0, 1);
    }

    private static void letters() {
        promise(37);
        BothToBlame x = told(THREE);
        String[] names = {"a", "bcdefg", "cz", ""};
        x.part(0, -1);
        for (int i = -1; i <= 4; i++) {
            for (int k = -1; k <= 70; k++) {
                String name = i < 0 || i > 3 ? "" : names[i];
                long want = k >= 0 && k < name.length() ? name.charAt(k) - 'a' : -99;
                long got;
                try {
                    got = x.letter(i, k);
                } catch (NoSuchElementException e) {
                    got = -99;
                }
                due("letter(" + i + ", " + k + ")", got, want);
            }
        }
        due("trouble() stays", x.trouble(), 2);
        promise(38);
        due("size()", x.size(), 0);
        x.feed(0, 0, 0, 0, 0);
        due("size()", x.size(), 20);
        promise(39);
        due("trouble() stays", x.trouble(), 2);
        x.about(0);
        due("trouble()", x.trouble(), 0);
    }

    public static void main(String[] args) {
        newObject();
        feeds();
        texts();
        faults();
        places();
        whatIsTold();
        debts();
        payments();
        sharing();
        nets();
        tenths();
        acts();
        images();
        letters();
        end("each promise holds");
    }
}
