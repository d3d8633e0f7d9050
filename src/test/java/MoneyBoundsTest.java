/** Each sentence about debts, funds and what is paid that names a boundary case: terms II, promises 6 to 28. */
public final class MoneyBoundsTest extends Checks {
    private static final String SEVEN = "ship a tons 10 fault 7 hull 100 value 1000;ship b tons 10 fault 3 hull 50 value 0;"
            + "ship c tons 10 fault 0 hull 30 value 7";

    /** One ship alone to blame, with funds of its own size; what the other one lost, claims and laws behind it. */
    private static BothToBlame alone(int lives, int rate, int hull, String more) {
        return told("ship a tons 1 fault 10 hull 0 value 0;ship b tons 1 fault 0 hull " + hull + " value 0;least 1;lives "
                + lives + ";rate " + rate + more);
    }

    private static void dueAll(String what, long[] got, long... want) {
        due(what + ": how many", got.length, want.length);
        for (int at = 0; at < want.length && at < got.length; at++) {
            due(what + " " + at, got[at], want[at]);
        }
    }

    private static long[] paid(BothToBlame x, int i) {
        long[] all = new long[x.about(1)];
        for (int k = 0; k < all.length; k++) {
            all[k] = x.pays(i, k);
        }
        return all;
    }

    // ---- debts

    private static void weights() {
        says("WEIGHT of a SHIP: its FAULT; by EQUAL 1, if that isn't 0, else 0.");
        BothToBlame x = told(SEVEN);
        dueAll("WEIGHT", new long[] {x.ship(0, 6), x.ship(1, 6), x.ship(2, 6)}, 7, 3, 0);
        x.law(2, 1);
        dueAll("WEIGHT by EQUAL", new long[] {x.ship(0, 6), x.ship(1, 6), x.ship(2, 6)}, 1, 1, 0);
        x.shift(0, 2, 1);
        due("a tenth is enough", x.ship(2, 6), 1);
        x.shift(1, 0, 3);
        due("none is not", x.ship(1, 6), 0);

        says("PART of a sum by a SHIP: it times its WEIGHT by all WEIGHTS together. (All that is divided is cut.)");
        x = told(SEVEN);
        dueAll("PART", new long[] {x.part(0, 0), x.part(0, 1), x.part(0, 9), x.part(0, 10), x.part(1, 9999999)},
                0, 0, 6, 7, 2999999);
        due("PART without WEIGHT", x.part(2, 9999999), 0);
        x.law(2, 1);
        dueAll("PART by EQUAL", new long[] {x.part(0, 1), x.part(0, 9), x.part(1, 9), x.part(2, 9)}, 0, 4, 4, 0);
        x.shift(0, 2, 1);
        dueAll("PART of three", new long[] {x.part(0, 2), x.part(1, 8), x.part(2, 9)}, 0, 2, 3);
        x.shift(1, 0, 3);
        x.shift(2, 0, 1);
        dueAll("PART of one alone", new long[] {x.part(0, 9999999), x.part(1, 9999999)}, 9999999, 0);

        says("PART of a sum (0 .. 9,999,999) by a SHIP. NONE: 1; 2.");
        none(x, "part(3, -1)", x.part(3, -1), 1);
        none(x, "part(0, -1)", x.part(0, -1), 2);
        none(x, "part(0, 10000000)", x.part(0, 10000000), 2);
        none(x, "part(0, least)", x.part(0, LEAST_INT), 2);
        none(x, "part(0, most)", x.part(0, MOST_INT), 2);
        none(x, "part(-1, 5)", x.part(-1, 5), 1);
    }

    private static void debts() {
        says("to another SHIP the PART of that one's HULL");
        BothToBlame x = told(SEVEN);
        dueAll("for the HULL", new long[] {x.between(0, 1, 0), x.between(1, 0, 0), x.between(0, 2, 0), x.between(1, 2, 0),
            x.between(2, 0, 0), x.between(2, 1, 0)}, 35, 30, 21, 9, 0, 0);
        x.become(1, 2, 0);
        due("no HULL is lost", x.between(0, 1, 0), 0);
        x.become(1, 2, 9999999);
        due("the most that is lost", x.between(0, 1, 0), 6999999);

        says("to a CLAIM for persons, for others its PART of the AMOUNT");
        x = told(SEVEN + ";persons 9 day 0;others 19 day 0;whole");
        dueAll("persons", new long[] {x.owes(0, 0), x.owes(1, 0), x.owes(2, 0)}, 6, 2, 0);
        dueAll("others", new long[] {x.owes(0, 1), x.owes(1, 1), x.owes(2, 1)}, 13, 5, 0);

        says("to a CLAIM for goods on another SHIP its PART, too, by WHOLE the AMOUNT times its WEIGHT by all WEIGHTS but"
                + " that of the SHIP on which they were (nothing, if these are 0)");
        x = told(SEVEN + ";goods a 101 day 0;goods c 101 day 0");
        dueAll("goods on a", new long[] {x.owes(1, 0), x.owes(2, 0)}, 30, 0);
        dueAll("goods on c", new long[] {x.owes(0, 1), x.owes(1, 1)}, 70, 30);
        x.law(3, 1);
        dueAll("goods on a by WHOLE", new long[] {x.owes(1, 0), x.owes(2, 0)}, 101, 0);
        dueAll("goods on c by WHOLE", new long[] {x.owes(0, 1), x.owes(1, 1)}, 70, 30);
        x.law(2, 1);
        x.shift(0, 2, 2);
        dueAll("goods on a by WHOLE, EQUAL", new long[] {x.owes(1, 0), x.owes(2, 0)}, 50, 50);
        x = told("ship a tons 5 fault 10 hull 7 value 0;ship b tons 6 fault 0 hull 9 value 0;goods a 500 day 5;whole");
        dueAll("these are 0", new long[] {x.owes(0, 0), x.owes(1, 0), x.back(0), x.gets(0, 2)}, 0, 0, 0, 0);
        x.shift(0, 1, 1);
        dueAll("these are 1", new long[] {x.owes(0, 0), x.owes(1, 0), x.back(0)}, 0, 500, 450);

        says("nothing to goods on itself.");
        x = told(SEVEN + ";goods a 101 day 0;goods b 101 day 0");
        for (int laws = 0; laws < 4; laws++) {
            x.law(2, laws & 1);
            x.law(3, laws >> 1);
            dueAll("goods on itself", new long[] {x.owes(0, 0), x.owes(1, 1), x.pays(0, 0), x.pays(1, 1)}, 0, 0, 0, 0);
        }
    }

    private static void backs() {
        says("BACK, by WHOLE alone: for each of these CLAIMS for goods the SHIP on which they were owes each other one what"
                + " this one's DEBT to the CLAIM is more than its PART of it.");
        BothToBlame x = told(SEVEN + ";goods a 101 day 0;goods a 9 day 0;goods c 101 day 0;persons 70 day 0;others 70 day 0");
        dueAll("without WHOLE", new long[] {x.between(0, 1, 1), x.back(0), x.back(1), x.back(2)}, 0, 0, 0, 0);
        x.law(3, 1);
        dueAll("a owes b", new long[] {x.back(0), x.back(1), x.between(0, 1, 1)}, 71, 7, 78);
        dueAll("no other one is owed", new long[] {x.between(0, 2, 1), x.between(1, 0, 1), x.between(2, 0, 1),
            x.between(2, 1, 1), x.between(1, 2, 1)}, 0, 0, 0, 0, 0);
        x = told("ship a tons 1 fault 4 hull 0 value 0;ship b tons 1 fault 5 hull 0 value 0;ship c tons 1 fault 1 hull 0 value 0;"
                + "goods a 100 day 0;whole");
        dueAll("each other one, cut", new long[] {x.owes(1, 0), x.owes(2, 0), x.between(0, 1, 1), x.between(0, 2, 1),
            x.back(0)}, 83, 16, 33, 6, 39);
        x.file(0, 2, 100, 0);
        dueAll("to ones told ahead of it, too", new long[] {x.owes(0, 1), x.owes(1, 1), x.between(2, 0, 1), x.between(2, 1, 1),
            x.back(1)}, 44, 55, 4, 5, 9);

        says("To a CLAIM that came behind LAST there is no DEBT, no BACK.");
        for (int last : new int[] {0, 365, 730, 998}) {
            x = told(SEVEN + ";goods a 100 day " + last + ";goods a 100 day " + (last + 1) + ";persons 100 day " + last
                    + ";persons 100 day " + (last + 1) + ";others 100 day " + last + ";others 100 day " + (last + 1)
                    + ";whole;due 0;last " + last);
            for (int k = 0; k < 6; k += 2) {
                due("on LAST " + last + " claim " + k, x.owes(1, k), k == 0 ? 100 : 30);
                due("behind LAST " + last + " claim " + k, x.owes(1, k + 1), 0);
                due("its ROUND", x.claim(k + 1, 4), -2);
                due("it gets", x.gets(k + 1, 2), 0);
            }
            dueAll("BACK", new long[] {x.back(0), x.back(1), x.between(0, 1, 1)}, 70, 0, 70);
        }
        x = told(SEVEN + ";goods a 100 day 999;whole;last 999");
        due("nothing comes behind 999", x.owes(1, 0), 100);

        says("BACK that the SHIP on which they were owes for a CLAIM's goods to all together (0 of persons, others). NONE: 1.");
        x = told(SEVEN + ";persons 70 day 0;others 70 day 0;whole");
        dueAll("of persons, others", new long[] {x.back(0), x.back(1)}, 0, 0);
        none(x, "back(2)", x.back(2), 1);
        none(x, "back(-1)", x.back(-1), 1);
    }

    private static void between() {
        says("BETWEEN two SHIPS the one owes the other the DEBT for the HULL and all BACK together.");
        BothToBlame x = told(SEVEN + ";goods a 100 day 0;goods b 1000 day 0;whole");
        dueAll("a to b", new long[] {x.between(0, 1, 0), x.between(0, 1, 1), x.between(0, 1, 2)}, 35, 70, 105);
        dueAll("b to a", new long[] {x.between(1, 0, 0), x.between(1, 0, 1), x.between(1, 0, 2)}, 30, 300, 330);

        says("Without CROSS (SINGLE) the lesser of what two owe each other is taken off both.");
        dueAll("SINGLE", new long[] {x.between(0, 1, 3), x.between(1, 0, 3), x.between(0, 2, 3), x.between(2, 0, 3)},
                0, 225, 21, 0);
        dueAll("together as it was", new long[] {x.between(0, 1, 2), x.between(1, 0, 2)}, 105, 330);
        x.law(4, 1);
        dueAll("CROSS", new long[] {x.between(0, 1, 3), x.between(1, 0, 3)}, 105, 330);
        x = told("ship a tons 1 fault 5 hull 100 value 0;ship b tons 1 fault 5 hull 100 value 0");
        dueAll("like sums", new long[] {x.between(0, 1, 3), x.between(1, 0, 3), x.between(0, 1, 2)}, 0, 0, 50);
        x.become(0, 2, 102);
        dueAll("one more", new long[] {x.between(0, 1, 3), x.between(1, 0, 3)}, 0, 1);

        says("BETWEEN: what a SHIP owes another one: for the HULL (what 0), BACK (1), together (2), as the LAW has it now, by SINGLE"
                + " or CROSS (3). NONE: 1 (what, too); 5 (it is one).");
        none(x, "between(0, 0, 4)", x.between(0, 0, 4), 1);
        none(x, "between(0, 0, -1)", x.between(0, 0, -1), 1);
        none(x, "between(0, 1, 4)", x.between(0, 1, 4), 1);
        none(x, "between(2, 2, 0)", x.between(2, 2, 0), 1);
        none(x, "between(0, 2, 0)", x.between(0, 2, 0), 1);
        none(x, "between(-1, 0, 0)", x.between(-1, 0, 0), 1);
        for (int what = 0; what < 4; what++) {
            none(x, "between(1, 1, " + what + ")", x.between(1, 1, what), 5);
        }
    }

    // ---- funds

    private static void funds() {
        says("FUNDS of a SHIP: its TONS, or LEAST if that is more, times LIVES, times RATE; 2,000,000,000 each at most.");
        BothToBlame x = told("ship a tons 299 fault 5 hull 0 value 0;ship b tons 300 fault 5 hull 0 value 0;"
                + "ship c tons 301 fault 0 hull 0 value 0;lives 3;rate 2");
        dueAll("by TONS, LEAST", new long[] {x.fund(0, 0), x.fund(1, 0), x.fund(2, 0), x.fund(0, 1), x.fund(1, 1),
            x.fund(2, 1)}, 900, 900, 903, 600, 600, 602);
        x.law(7, 1);
        dueAll("by TONS", new long[] {x.fund(0, 0), x.fund(0, 1)}, 897, 598);
        x.law(7, 99999);
        x.law(5, 0);
        x.law(6, 0);
        dueAll("by 0", new long[] {x.fund(0, 0), x.fund(0, 1)}, 0, 0);
        x = told("ship a tons 40000 fault 5 hull 0 value 0;ship b tons 40001 fault 5 hull 0 value 0;"
                + "ship c tons 39999 fault 0 hull 0 value 0;lives 50000;rate 50000");
        for (int kind = 0; kind < 2; kind++) {
            dueAll("at most", new long[] {x.fund(0, kind), x.fund(1, kind), x.fund(2, kind)},
                    2000000000, 2000000000, 1999950000);
        }
        x.become(0, 0, 99999);
        x.law(5, 99999);
        due("of the largest ship", x.fund(0, 1), 2000000000);
        x = told("ship a tons 1 fault 5 hull 0 value 0;ship b tons 1 fault 5 hull 0 value 0;least 99999;lives 99999;rate 20000");
        dueAll("by LEAST", new long[] {x.fund(0, 0), x.fund(0, 1)}, 2000000000, 1999980000);

        says("FUND of a SHIP: LIVES (kind 0), RATE (1). NONE: 1 (kind, too).");
        none(x, "fund(0, 2)", x.fund(0, 2), 1);
        none(x, "fund(0, -1)", x.fund(0, -1), 1);
        none(x, "fund(2, 0)", x.fund(2, 0), 1);
    }

    private static void rounds() {
        says("It PAYS: CLAIMS for persons out of the LIVES fund; what they lack there, all other CLAIMS, and SHIPS out of the"
                + " RATE fund");
        int[][] funds = {{100, 0, 100}, {99, 0, 99}, {101, 0, 100}, {60, 40, 100}, {60, 39, 99}, {60, 41, 100}, {0, 100, 100},
            {0, 0, 0}, {0, 1, 1}};
        for (int[] f : funds) {
            due("persons by " + f[0] + ", " + f[1], alone(f[0], f[1], 0, ";persons 100 day 0").pays(0, 0), f[2]);
        }
        BothToBlame x = alone(1000, 0, 5, ";others 5 day 0;goods b 5 day 0;persons 1 day 0");
        dueAll("the LIVES fund is for persons alone", paid(x, 0), 0, 0, 1);
        due("nor for SHIPS", x.paysTo(0, 1), 0);

        says("each fund SHARED in two ROUNDS: first SHIPS and CLAIMS that came up to DUE, then, of what is left, CLAIMS that"
                + " came later.");
        dueAll("RATE 10", paid(alone(0, 10, 0, ";others 10 day 366;others 10 day 365"), 0), 0, 10);
        dueAll("RATE 15", paid(alone(0, 15, 0, ";others 10 day 366;others 10 day 365"), 0), 5, 10);
        dueAll("RATE 9", paid(alone(0, 9, 0, ";others 10 day 366;others 10 day 365"), 0), 0, 9);
        dueAll("RATE 20", paid(alone(0, 20, 0, ";others 10 day 366;others 10 day 365"), 0), 10, 10);
        dueAll("LIVES 10", paid(alone(10, 0, 0, ";persons 10 day 366;persons 10 day 365"), 0), 0, 10);
        dueAll("LIVES 15", paid(alone(15, 0, 0, ";persons 10 day 366;persons 10 day 365"), 0), 5, 10);
        dueAll("both", paid(alone(15, 3, 0, ";persons 10 day 366;persons 10 day 365;others 10 day 366"), 0), 6, 10, 2);
        x = alone(0, 10, 10, ";others 10 day 366");
        dueAll("SHIPS come first", new long[] {x.paysTo(0, 1), x.pays(0, 0)}, 10, 0);
        x.law(8, 366);
        dueAll("up to DUE", new long[] {x.paysTo(0, 1), x.pays(0, 0)}, 5, 5);
        x.law(8, 0);
        dueAll("later than DUE", new long[] {x.paysTo(0, 1), x.pays(0, 0)}, 10, 0);
        dueAll("DUE 0", paid(alone(0, 4, 0, ";due 0;others 4 day 1;others 4 day 0"), 0), 0, 4);
        dueAll("DUE is LAST", paid(alone(0, 4, 0, ";due 5;last 5;others 4 day 6;others 4 day 5"), 0), 0, 4);
    }

    private static void shares() {
        says("SHARED: to all what is owed (lacked), if that is no more than the fund has; else to each this times what the fund"
                + " has by all of these together");
        String two = ";others 10 day 0;others 20 day 0";
        dueAll("all", paid(alone(0, 30, 0, two), 0), 10, 20);
        dueAll("more than all", paid(alone(0, 31, 0, two), 0), 10, 20);
        dueAll("by 15", paid(alone(0, 15, 0, two), 0), 5, 10);
        dueAll("by 0", paid(alone(0, 0, 0, two), 0), 0, 0);
        dueAll("by 3", paid(alone(0, 3, 0, two), 0), 1, 2);
        BothToBlame x = told("ship a tons 1 fault 0 hull 30 value 0;ship b tons 1 fault 10 hull 0 value 0;least 1;rate 20;"
                + "others 10 day 0");
        dueAll("to the first SHIP, too", new long[] {x.paysTo(1, 0), x.pays(1, 0)}, 15, 5);
        x = alone(0, 5, 0, ";others 9999999 day 0;others 9999999 day 0;others 9999998 day 0");
        x.become(0, 0, 99999);
        x.law(5, 100);
        // 9,999,900 by 29,999,996: 3,333,300 and some, twice; 3,333,299 and some; the one that is left goes to the first.
        dueAll("of much", paid(x, 0), 3333301, 3333300, 3333299);

        says("and of what is left one each to the first ones (SHIPS by numbers, then CLAIMS by numbers; of those who are owed"
                + " something in that ROUND and have less than that).");
        dueAll("by 29", paid(alone(0, 29, 0, two), 0), 10, 19);
        dueAll("by 1", paid(alone(0, 1, 0, two), 0), 1, 0);
        dueAll("by 2", paid(alone(0, 2, 0, two), 0), 1, 1);
        for (int rate = 0; rate <= 5; rate++) {
            oneEach(rate);
        }
        x = alone(5, 2, 0, ";persons 5 day 0;others 2 day 366;others 2 day 0;others 2 day 0");
        dueAll("not to those who lack nothing or came later", paid(x, 0), 5, 0, 1, 1);
        x = alone(3, 3, 0, ";persons 4 day 0;persons 4 day 0;others 4 day 0");
        // Lives 3 of 8: 1, 1 and one more; rate: 2, 3, 4 are lacked of 3: 0, 1, 1 and one more.
        dueAll("in both funds", paid(x, 0), 3, 2, 1);

        says("A SHIP that is BARRED pays all.");
        x = alone(0, 0, 7, ";persons 5 day 0;others 6 day 366;goods b 8 day 731");
        dueAll("not yet", paid(x, 0), 0, 0, 0);
        due("bites()", x.bites(0), 1);
        x.become(0, 5, 1);
        dueAll("barred", paid(x, 0), 5, 6, 0);
        dueAll("barred", new long[] {x.paysTo(0, 1), x.sum(0, 0), x.sum(0, 1), x.bites(0)}, 7, 18, 18, 0);
        due("its fund is told all the same", x.fund(0, 1), 0);
    }

    /** The fourth ship owes one each to two ships of three and to two claims of three; a later claim stands among them. */
    private static void oneEach(int rate) {
        BothToBlame x = told("ship a tons 1 fault 0 hull 1 value 0;ship b tons 1 fault 0 hull 0 value 0;"
                + "ship c tons 1 fault 0 hull 1 value 0;ship d tons 1 fault 10 hull 5 value 0;least 1;lives 0;rate " + rate
                + ";goods d 1 day 0;others 1 day 366;goods a 1 day 365;persons 1 day 0");
        long[] got = {x.paysTo(3, 0), x.paysTo(3, 1), x.paysTo(3, 2), x.pays(3, 0), x.pays(3, 1), x.pays(3, 2), x.pays(3, 3)};
        int[] turn = {1, 9, 2, 9, 5, 3, 4};
        for (int p = 0; p < 7; p++) {
            due("by RATE " + rate + " party " + p, got[p], rate >= turn[p] ? 1 : 0);
        }
    }

    private static void givenBack() {
        says("GIVEN BACK: goods on a SHIP with the CLAUSE give it all BACK that it owes for them (as owed, limits and CROSS aside),"
                + " but no more than what is PAID to them.");
        String ships = "ship a tons 1 fault 7 hull 0 value 0 clause;ship b tons # fault 3 hull 0 value 0;least 1;rate 1;"
                + "goods a 100 day 0;whole";
        int[][] funds = {{1, 1, 0}, {69, 69, 0}, {70, 70, 0}, {71, 70, 1}, {100, 70, 30}, {101, 70, 30}};
        for (int[] f : funds) {
            BothToBlame x = told(ships.replace("#", "" + f[0]));
            dueAll("by " + f[0], new long[] {x.gets(0, 1), x.gets(0, 0), x.back(0), x.paysTo(0, 1)}, f[1], f[2], 70, 1);
        }
        BothToBlame x = told(ships.replace("#", "100"));
        x.become(0, 2, 1000);
        x.law(5, 10);
        dueAll("SINGLE aside", new long[] {x.between(0, 1, 3), x.between(1, 0, 3), x.gets(0, 1), x.gets(0, 2)}, 0, 230, 70, 100);
        x.law(4, 1);
        dueAll("CROSS aside", new long[] {x.between(0, 1, 3), x.between(1, 0, 3), x.gets(0, 1), x.gets(0, 2)}, 70, 300, 70, 100);
        x.become(0, 4, 0);
        due("without the CLAUSE", x.gets(0, 1), 0);
        x.become(1, 4, 1);
        due("the CLAUSE of another one", x.gets(0, 1), 0);
        x.become(0, 4, 1);
        x.law(3, 0);
        due("without WHOLE", x.gets(0, 1), 0);
        x = told(ships.replace("#", "100") + ";persons 100 day 0;others 100 day 0;goods b 100 day 0");
        dueAll("persons, others, goods without the CLAUSE", new long[] {x.gets(1, 1), x.gets(2, 1), x.gets(3, 1)}, 0, 0, 0);
        x.law(9, 365);
        x.law(8, 0);
        x.file(0, 0, 100, 366);
        due("behind LAST", x.gets(4, 1), 0);

        says("A CLAIM GETS what all SHIPS PAY to it, less what is GIVEN BACK.");
        x = told(SEVEN.replace("value 1000", "value 1000 clause") + ";goods a 10 day 0;persons 10 day 0;whole");
        dueAll("goods", new long[] {x.gets(0, 0), x.gets(0, 1), x.gets(0, 2)}, 3, 7, 10);
        dueAll("persons", new long[] {x.gets(1, 0), x.gets(1, 1), x.gets(1, 2)}, 10, 0, 10);
        says("What a CLAIM GETS (what 0), what of it is GIVEN BACK (1), what all SHIPS PAY to it (2). NONE: 1 (what, too).");
        none(x, "gets(0, 3)", x.gets(0, 3), 1);
        none(x, "gets(0, -1)", x.gets(0, -1), 1);
        none(x, "gets(2, 0)", x.gets(2, 0), 1);
        none(x, "gets(-1, 0)", x.gets(-1, 0), 1);

        says("NET of a SHIP: what SHIPS PAY to it, and is GIVEN BACK to it, less all that it PAYS, less its HULL.");
        // SINGLE: a to b 35 and 7 back, b to a 30: 12; a to c 21; persons 7. b: goods 10, persons 3, c 9.
        dueAll("NET", new long[] {x.net(0), x.net(1), x.net(2)}, 7 - 12 - 21 - 7 - 100, 12 - 10 - 3 - 9 - 50, 21 + 9 - 30);
        due("all()", x.all(), -180 + 20 - 20 + 10 - 10 + 3 - 3);
    }

    private static void cover() {
        says("COVER of a SHIP: three quarters (cut) of all together that it PAYS to SHIPS, goods, others, three quarters (cut) of"
                + " its VALUE at most; its CLUB: what else it PAYS.");
        for (int amount = 1; amount <= 9; amount++) {
            BothToBlame x = alone(9, 9, 0, ";others " + amount + " day 0");
            x.become(0, 3, 1000);
            dueAll("of " + amount, new long[] {x.cover(0, 0), x.cover(0, 1)}, amount * 3 / 4, amount - amount * 3 / 4);
            x.become(0, 3, amount);
            x.become(0, 5, 1);
            x.file(2, 0, 1000, 0);
            dueAll("VALUE " + amount, new long[] {x.cover(0, 0), x.cover(0, 1)}, amount * 3 / 4,
                    1000 + amount - amount * 3 / 4);
        }
        BothToBlame x = alone(99, 99, 1, ";others 1 day 0;goods b 1 day 0;persons 50 day 0");
        dueAll("VALUE 0", new long[] {x.cover(0, 0), x.cover(0, 1)}, 0, 53);
        x.become(0, 3, 9999999);
        dueAll("all together is cut", new long[] {x.cover(0, 0), x.cover(0, 1)}, 2, 51);
        x.become(0, 3, 2);
        dueAll("no more than of VALUE", new long[] {x.cover(0, 0), x.cover(0, 1)}, 1, 52);
        dueAll("who pays nothing", new long[] {x.cover(1, 0), x.cover(1, 1)}, 0, 0);
        x = alone(0, 0, 1, ";others 1 day 0;persons 50 day 0");
        x.become(0, 3, 100);
        dueAll("what is owed and not paid", new long[] {x.cover(0, 0), x.cover(0, 1)}, 0, 0);
        x = alone(0, 51, 0, ";persons 50 day 0;others 1 day 0");
        x.become(0, 3, 100);
        dueAll("persons paid out of RATE", new long[] {x.cover(0, 0), x.cover(0, 1)}, 0, 51);
        says("COVER of a SHIP (kind 0), its CLUB (1). NONE: 1 (kind, too).");
        none(x, "cover(0, 2)", x.cover(0, 2), 1);
        none(x, "cover(0, -1)", x.cover(0, -1), 1);
        none(x, "cover(2, 0)", x.cover(2, 0), 1);
    }

    private static void sums() {
        says("What a SHIP owes (kind 0: all DEBTS to CLAIMS, and to SHIPS as the LAW has it), PAYS (1), all together."
                + " NONE: 1 (kind, too).");
        BothToBlame x = told("ship a tons 1 fault 5 hull 100 value 0;ship b tons 1 fault 5 hull 60 value 0;persons 10 day 0;"
                + "others 10 day 999");
        dueAll("SINGLE", new long[] {x.sum(0, 0), x.sum(1, 0), x.sum(0, 1), x.sum(1, 1)}, 5, 25, 5, 25);
        x.law(4, 1);
        dueAll("CROSS", new long[] {x.sum(0, 0), x.sum(1, 0), x.sum(0, 1), x.sum(1, 1)}, 35, 55, 35, 55);
        none(x, "sum(0, 2)", x.sum(0, 2), 1);
        none(x, "sum(0, -1)", x.sum(0, -1), 1);

        says("1 if a SHIP PAYS less than it owes, 0. NONE: 1.");
        dueAll("bites", new long[] {x.bites(0), x.bites(1)}, 0, 0);
        x.law(7, 1);
        x.law(5, 50);
        x.law(6, 5);
        dueAll("just enough", new long[] {x.bites(0), x.bites(1)}, 0, 0);
        x.law(5, 49);
        dueAll("one lacks", new long[] {x.bites(0), x.bites(1)}, 0, 1);
        dueAll("what is owed, what is paid", new long[] {x.sum(1, 0), x.sum(1, 1)}, 55, 54);
        x.law(5, 50);
        x.law(6, 4);
        dueAll("one life lacks", new long[] {x.bites(0), x.bites(1)}, 0, 1);
        none(x, "bites(2)", x.bites(2), 1);

        says("What a SHIP PAYS to another one. NONE: 1; 5 (it is one).");
        none(x, "paysTo(0, 0)", x.paysTo(0, 0), 5);
        none(x, "paysTo(2, 2)", x.paysTo(2, 2), 1);
        none(x, "paysTo(0, 2)", x.paysTo(0, 2), 1);
        none(x, "paysTo(-1, 0)", x.paysTo(-1, 0), 1);
    }

    // ---- what owners are left with

    private static void laws() {
        says("NET of a SHIP, were the LAWS others (bits: 1 EQUAL, 2 WHOLE, 4 CROSS). NOTHING: 1 (SHIP); 2.");
        BothToBlame x = told(SEVEN + ";goods a 100 day 0;goods b 90 day 0;least 1;rate 9");
        for (int i = 0; i < 3; i++) {
            for (int laws = 0; laws < 8; laws++) {
                BothToBlame y = told(SEVEN + ";goods a 100 day 0;goods b 90 day 0;least 1;rate 9"
                        + ((laws & 1) != 0 ? ";equal" : "") + ((laws & 2) != 0 ? ";whole" : "")
                        + ((laws & 4) != 0 ? ";cross" : ""));
                due("netBy(" + i + ", " + laws + ")", x.netBy(i, laws), y.net(i));
                due("from those laws", y.netBy(i, 0), x.net(i));
            }
        }
        nothing(x, "netBy(0, 8)", x.netBy(0, 8), 2);
        nothing(x, "netBy(0, -1)", x.netBy(0, -1), 2);
        nothing(x, "netBy(3, 8)", x.netBy(3, 8), 1);
        nothing(x, "netBy(-1, 0)", x.netBy(-1, 0), 1);

        says("The LAWS (bits) by which the NET of a SHIP is most, the least number of like ones. NONE: 1.");
        x = told(SEVEN + ";equal;whole;cross");
        // c is owed all its hull by whatever law; a is better off if all are alike.
        due("like ones", x.wished(2), 0);
        due("a", x.wished(0), 1);
        due("b", x.wished(1), 0);
        due("laws as they are", x.about(2) + x.about(3) + x.about(4), 3);
        x = told("ship a tons 1 fault 5 hull 0 value 0;ship b tons 1 fault 5 hull 0 value 0 barred;least 1;rate 0;goods a 10 day 0");
        // By WHOLE b pays ten, and a, whose fund is empty, gives nothing back: a by no law better off than by the first.
        dueAll("b loses by WHOLE", new long[] {x.netBy(1, 0), x.netBy(1, 2), x.wished(1), x.wished(0)}, -5, -10, 0, 0);
        x = told("ship a tons 1 fault 5 hull 10 value 0;ship b tons 1 fault 5 hull 10 value 0 barred;least 1;rate 0");
        // By CROSS b pays five, a nothing.
        dueAll("a wishes CROSS", new long[] {x.netBy(0, 0), x.netBy(0, 4), x.wished(0), x.wished(1)}, -10, -5, 4, 0);
        x = told("ship a tons 1 fault 5 hull 0 value 0 clause;ship b tons 1 fault 5 hull 0 value 0 barred;least 1;rate 0;"
                + "goods a 10 day 0");
        dueAll("a wishes WHOLE", new long[] {x.netBy(0, 2), x.wished(0)}, 5, 2);
        none(x, "wished(2)", x.wished(2), 1);
        none(x, "wished(-1)", x.wished(-1), 1);

        says("NET of a SHIP by CROSS less that by SINGLE (the other LAWS as they are). NOTHING: 1.");
        x = told("ship a tons 1 fault 5 hull 10 value 0;ship b tons 1 fault 5 hull 10 value 0 barred;least 1;rate 0");
        dueAll("gap", new long[] {x.gap(0), x.gap(1)}, 5, -5);
        x.law(4, 1);
        dueAll("gap by CROSS", new long[] {x.gap(0), x.gap(1)}, 5, -5);
        x.shift(0, 1, 2);
        dueAll("gap", new long[] {x.gap(0), x.gap(1)}, 3, -3);
        x.law(2, 1);
        dueAll("gap by EQUAL", new long[] {x.gap(0), x.gap(1)}, 5, -5);
        x = told("ship a tons 1 fault 7 hull 100 value 0;ship b tons 1 fault 3 hull 50 value 0 barred;least 1;rate 0;"
                + "goods a 100 day 0;goods b 90 day 0");
        // a, whose fund is empty, owes b 35, and is owed 30; by EQUAL 25, 50; by WHOLE 105, 57; by both 75, 95.
        int[] gaps = {30, 25, 57, 75};
        for (int laws = 0; laws < 8; laws++) {
            x.law(2, laws & 1);
            x.law(3, laws >> 1 & 1);
            x.law(4, laws >> 2);
            dueAll("gap by " + laws, new long[] {x.gap(0), x.gap(1)}, gaps[laws & 3], -gaps[laws & 3]);
        }
        nothing(x, "gap(2)", x.gap(2), 1);
        nothing(x, "gap(-1)", x.gap(-1), 1);
        says("NET of a SHIP. NOTHING: 1.");
        nothing(x, "net(2)", x.net(2), 1);
        nothing(x, "net(-1)", x.net(-1), 1);
    }

    private static void enough() {
        says("The least RATE (0 .. 99,999) by which each SHIP that isn't BARRED could pay out of its RATE fund all that is to be"
                + " paid out of that; -2: none. NONE: 1 (no TEXT).");
        BothToBlame y = new BothToBlame();
        none(y, "enough() without a TEXT", y.enough(), 1);
        int[][] by = {{0, 0}, {1, 1}, {10, 10}, {99998, 99998}, {99999, 99999}, {100000, -2}, {9999999, -2}};
        for (int[] b : by) {
            due("enough() of " + b[0], alone(0, 0, b[0], "").enough(), b[1]);
            due("by whatever RATE it has", alone(0, 99999, b[0], "").enough(), b[1]);
        }
        BothToBlame x = alone(0, 0, 100000, "");
        due("none", x.enough(), -2);
        due("is no trouble", x.trouble(), 0);
        x.become(0, 5, 1);
        due("who is BARRED", x.enough(), 0);
        x.become(0, 5, 0);
        x.law(7, 300);
        due("by LEAST, 100,000 by 300", x.enough(), 334);
        x.become(1, 2, 99900);
        due("99,900 by 300", x.enough(), 333);
        x.become(0, 0, 301);
        due("by TONS, 99,900 by 301", x.enough(), 332);
        x = alone(40, 0, 0, ";persons 30 day 0;persons 30 day 366;persons 30 day 731;others 5 day 400");
        due("what persons lack, 20, and 5", x.enough(), 25);
        x.law(6, 60);
        due("persons lack nothing", x.enough(), 5);
        x.law(6, 1000);
        due("what is left of LIVES is for none else", x.enough(), 5);
        x = told("ship a tons 2 fault 5 hull 100 value 0;ship b tons 3 fault 5 hull 200 value 0;least 1");
        due("SINGLE: 50 by 2", x.enough(), 25);
        x.law(4, 1);
        due("each SHIP: 100 by 2, 50 by 3", x.enough(), 50);
        x.become(0, 5, 1);
        due("50 by 3", x.enough(), 17);
        x.law(5, 17);
        due("it is enough", x.bites(1), 0);
        x.law(5, 16);
        due("less is not", x.bites(1), 1);
    }

    private static void tenths() {
        says("NET of SHIP i, if of the tenths that it and SHIP j have together it had f, j the others. NOTHING: 1; 5 (it is one);"
                + " 2 (f below 0, more than both have).");
        BothToBlame x = told("ship a tons 1 fault 3 hull 100 value 0;ship b tons 1 fault 4 hull 0 value 0;"
                + "ship c tons 1 fault 3 hull 0 value 0");
        dueAll("would", new long[] {x.would(0, 1, 0), x.would(0, 1, 3), x.would(0, 1, 7), x.would(1, 0, 0), x.would(1, 0, 7)},
                0, -30, -70, 0, -70);
        nothing(x, "would(0, 1, 8)", x.would(0, 1, 8), 2);
        nothing(x, "would(0, 1, -1)", x.would(0, 1, -1), 2);
        nothing(x, "would(0, 2, 7)", x.would(0, 2, 7), 2);
        nothing(x, "would(0, 0, 99)", x.would(0, 0, 99), 5);
        nothing(x, "would(3, 3, 99)", x.would(3, 3, 99), 1);
        nothing(x, "would(0, 3, 0)", x.would(0, 3, 0), 1);
        nothing(x, "would(-1, 0, 0)", x.would(-1, 0, 0), 1);
        dueAll("tenths as they are", new long[] {x.ship(0, 1), x.ship(1, 1), x.ship(2, 1)}, 3, 4, 3);

        says("The fewest tenths of these with which SHIP i's NET is below n (-1,000,000,000 .. 1,000,000,000); -2: with none."
                + " NONE: 1; 2; 5 (it is one).");
        dueAll("worse", new long[] {x.worse(0, 1, 1), x.worse(0, 1, 0), x.worse(0, 1, -29), x.worse(0, 1, -30),
            x.worse(0, 1, -69), x.worse(0, 1, -70)}, 0, 1, 3, 4, 7, -2);
        due("with none", x.worse(0, 1, -1000000000), -2);
        due("is no trouble", x.trouble(), 0);
        due("with any", x.worse(0, 1, 1000000000), 0);
        none(x, "worse(0, 0, 1000000001)", x.worse(0, 0, 1000000001), 2);
        none(x, "worse(0, 1, 1000000001)", x.worse(0, 1, 1000000001), 2);
        none(x, "worse(0, 1, -1000000001)", x.worse(0, 1, -1000000001), 2);
        none(x, "worse(0, 0, 5)", x.worse(0, 0, 5), 5);
        none(x, "worse(3, 3, 1000000001)", x.worse(3, 3, 1000000001), 1);
        none(x, "worse(0, 3, 5)", x.worse(0, 3, 5), 1);
        x = told("ship a tons 1 fault 0 hull 100 value 0;ship b tons 1 fault 0 hull 0 value 0;ship c tons 1 fault 10 hull 0 value 0");
        dueAll("no tenths together", new long[] {x.worse(0, 1, 1), x.worse(0, 1, 0), x.would(0, 1, 0)}, 0, -2, 0);
        nothing(x, "would(0, 1, 1)", x.would(0, 1, 1), 2);
    }

    private static void judges() {
        says("n JUDGES (1 .. 50) by a seed: each names ten times a SHIP (a DRAW of SHIPS; x goes on from judge to judge), which has"
                + " a tenth more (all FAULTS from 0 on): NET of a SHIP: of all judges together (what 0), the least (1), the most (2).");
        // By the seed 1 the first judge names b, a, a, and b seven times; the NET of a is -10 a tenth.
        BothToBlame x = told("ship a tons 1 fault 6 hull 100 value 0;ship b tons 1 fault 4 hull 0 value 0");
        dueAll("one judge", new long[] {x.judged(0, 1, 1, 0), x.judged(0, 1, 1, 1), x.judged(0, 1, 1, 2)}, -20, -20, -20);
        long draw = 1;
        long all = 0;
        long least = 0;
        long most = -100;
        for (int n = 1; n <= 50; n++) {
            int tenths = 0;
            for (int t = 0; t < 10; t++) {
                draw = draw * 48271 % 2147483647;
                tenths += draw % 2 == 0 ? 1 : 0;
            }
            all -= 10 * tenths;
            least = Math.min(least, -10 * tenths);
            most = Math.max(most, -10 * tenths);
            dueAll(n + " judges", new long[] {x.judged(0, 1, n, 0), x.judged(0, 1, n, 1), x.judged(0, 1, n, 2)},
                    all, least, most);
        }
        dueAll("tenths as they are", new long[] {x.ship(0, 1), x.ship(1, 1)}, 6, 4);
        x.law(2, 1);
        dueAll("by EQUAL", new long[] {x.judged(0, 1, 1, 0), x.judged(0, 1, 1, 1), x.judged(0, 1, 1, 2)}, -50, -50, -50);
        x = told("ship a tons 1 fault 6 hull 0 value 0 clause;ship b tons 1 fault 4 hull 0 value 0 barred;goods a 100 day 0;"
                + "whole;least 1;rate 0");
        // Goods give back 10 a tenth of a, which pays nothing: 20 by the first judge, above 0 by each of these.
        dueAll("above 0", new long[] {x.judged(0, 1, 1, 0), x.judged(0, 1, 1, 1), x.judged(0, 1, 1, 2)}, 20, 20, 20);
        due("the least of three", x.judged(0, 1, 3, 1) > 0, true);
        x = told("ship a tons 1 fault 6 hull 100 value 0;ship b tons 1 fault 4 hull 0 value 0");
        says("A DRAW of n: x becomes 48271 x modulo 2147483647 (x at first a seed 1 .. 2147483646), it is x modulo n.");
        // The seed 2147483646 is -1: each x is 2147483647 less that of the seed 1, so it is odd where that one is even.
        due("seed 2147483646", x.judged(0, 2147483646, 1, 0), -80);
        x = told("ship a tons 1 fault 10 hull 100 value 0;ship b tons 1 fault 0 hull 0 value 0;ship c tons 1 fault 0 hull 0 value 0");
        // 48271, 182605794, 1291394886, 1914720637, 2078669041, 407355683, 1105902161, 854716505, 564586691, 1596680831:
        // modulo 3 these are 1, 0, 0, 1, 1, 2, 2, 2, 2, 2.
        dueAll("of three", new long[] {x.judged(0, 1, 1, 0), x.judged(1, 1, 1, 0), x.judged(2, 1, 1, 0)}, -20, -30, -50);

        says("NOTHING: 1 (SHIP, what); 2 (seed, n).");
        nothing(x, "judged(3, 0, 0, 3)", x.judged(3, 0, 0, 3), 1);
        nothing(x, "judged(-1, 1, 1, 0)", x.judged(-1, 1, 1, 0), 1);
        nothing(x, "judged(0, 0, 0, 3)", x.judged(0, 0, 0, 3), 1);
        nothing(x, "judged(0, 1, 1, -1)", x.judged(0, 1, 1, -1), 1);
        for (int seed : new int[] {0, -1, LEAST_INT, MOST_INT}) {
            nothing(x, "judged(0, " + seed + ", 1, 0)", x.judged(0, seed, 1, 0), 2);
        }
        for (int n : new int[] {0, -1, 51, LEAST_INT, MOST_INT}) {
            nothing(x, "judged(0, 1, " + n + ", 0)", x.judged(0, 1, n, 0), 2);
        }
    }

    private static void told() {
        says("0 SHIPS, 1 CLAIMS, 2, 3, 4 whether EQUAL, WHOLE, CROSS holds (1, 0), 5 RATE, 6 LIVES, 7 LEAST, 8 DUE, 9 LAST, 10 ACTS"
                + " that can be undone. NONE: 1 (no TEXT, what).");
        BothToBlame x = told(SEVEN + ";others 1 day 0");
        due("about(10)", x.about(10), 0);
        x.law(5, 1);
        due("about(10)", x.about(10), 1);
        long[] about = new long[11];
        for (int what = 0; what <= 10; what++) {
            about[what] = x.about(what);
        }
        dueAll("about", about, 3, 1, 0, 0, 0, 1, 200, 300, 365, 730, 1);
        for (int law = 2; law <= 4; law++) {
            x.law(law, 1);
            dueAll("about a LAW", new long[] {x.about(2), x.about(3), x.about(4)}, 1, law > 2 ? 1 : 0, law > 3 ? 1 : 0);
        }
        for (int what : new int[] {-1, 11, LEAST_INT, MOST_INT}) {
            none(x, "about(" + what + ")", x.about(what), 1);
        }
        BothToBlame y = new BothToBlame();
        for (int what = 0; what <= 10; what++) {
            none(y, "about(" + what + ") without a TEXT", y.about(what), 1);
        }

        says("Of a SHIP 0 TONS, 1 FAULT, 2 HULL, 3 VALUE, 4 CLAUSE (1, 0), 5 BARRED (1, 0), 6 WEIGHT. NONE: 1 (what, too).");
        for (int what : new int[] {-1, 7, LEAST_INT, MOST_INT}) {
            none(x, "ship(0, " + what + ")", x.ship(0, what), 1);
        }
        for (int i : new int[] {-1, 3, LEAST_INT, MOST_INT}) {
            none(x, "ship(" + i + ", 0)", x.ship(i, 0), 1);
        }

        says("Of a CLAIM 0 its kind (0 goods, 1 persons, 2 others), 1 the SHIP of goods (-2: none), 2 AMOUNT, 3 DAY, 4 its ROUND"
                + " (0, 1; -2: behind LAST). NONE: 1 (what, too).");
        for (int what : new int[] {-1, 5, LEAST_INT, MOST_INT}) {
            none(x, "claim(0, " + what + ")", x.claim(0, what), 1);
        }
        for (int k : new int[] {-1, 1, LEAST_INT, MOST_INT}) {
            none(x, "claim(" + k + ", 0)", x.claim(k, 0), 1);
        }
        x = told(SEVEN + ";due 5;last 7;goods b 1 day 5;persons 1 day 6;others 1 day 7;others 1 day 8;others 1 day 0");
        dueAll("kind", new long[] {x.claim(0, 0), x.claim(1, 0), x.claim(2, 0)}, 0, 1, 2);
        dueAll("its SHIP", new long[] {x.claim(0, 1), x.claim(1, 1), x.claim(2, 1)}, 1, -2, -2);
        dueAll("ROUND", new long[] {x.claim(0, 4), x.claim(1, 4), x.claim(2, 4), x.claim(3, 4), x.claim(4, 4)}, 0, 1, 1, -2, 0);
        due("-2 is no trouble", x.trouble(), 0);

        says("The DEBT of a SHIP to a CLAIM. NONE: 1.");
        for (int v : new int[] {-1, 5, LEAST_INT, MOST_INT}) {
            none(x, "owes(0, " + v + ")", x.owes(0, v), 1);
            none(x, "owes(" + v + ", 0)", x.owes(v, 0), 1);
        }
        says("What a SHIP PAYS to a CLAIM. NONE: 1.");
        for (int v : new int[] {-1, 5, LEAST_INT, MOST_INT}) {
            none(x, "pays(0, " + v + ")", x.pays(0, v), 1);
            none(x, "pays(" + v + ", 0)", x.pays(v, 0), 1);
        }
        says("All NETS of SHIPS and all that CLAIMS GET, added. NOTHING: 1 (no TEXT).");
        due("claims of one each, all cut to nothing", x.all(), -180);
        due("of what ships lost", told(TWO).all(), -1500);
        nothing(y, "all() without a TEXT", y.all(), 1);
    }

    /** Four ships, twelve claims: each ship i has i + 1 tenths, 1000 lost a tenth; each claim is 1000. */
    private static String full() {
        StringBuilder text = new StringBuilder();
        for (int i = 0; i < 4; i++) {
            text.append("ship ").append((char) ('a' + i)).append(" tons 1000 fault ").append(i + 1).append(" hull ")
                    .append(1000 * (i + 1)).append(" value 9999999;");
        }
        for (int i = 0; i < 4; i++) {
            text.append("goods ").append((char) ('a' + i)).append(" 1000 day 0;persons 1000 day 0;others 1000 day 0;");
        }
        return text.append("cross").toString();
    }

    private static void fullCase() {
        says("2 to 4.");
        says("up to 12 in all)");
        BothToBlame x = told(full());
        due("SHIPS", x.about(0), 4);
        due("CLAIMS", x.about(1), 12);
        int[] tenths = new int[4];
        long draw = 1;
        for (int t = 0; t < 10; t++) {
            draw = draw * 48271 % 2147483647;
            tenths[(int) (draw % 4)]++;
        }
        for (int i = 0; i < 4; i++) {
            int f = i + 1;
            // A ship pays 100 a tenth to each of eleven claims, 100 a tenth and tenth of the other to each ship.
            due("net(" + i + ")", x.net(i), -2100 * f);
            due("netBy(" + i + ", 0)", x.netBy(i, 0), -2100 * f);
            due("gap(" + i + ")", x.gap(i), 0);
            int best = 0;
            for (int laws = 1; laws < 8; laws++) {
                best = x.netBy(i, laws) > x.netBy(i, best) ? laws : best;
            }
            due("wished(" + i + ")", x.wished(i), best);
            due("judged(" + i + ")", x.judged(i, 1, 1, 0), -2100 * tenths[i]);
            due("sum(" + i + ")", x.sum(i, 1), 1100 * f + 100 * f * (10 - f));
            due("bites(" + i + ")", x.bites(i), 0);
            due("cover(" + i + ")", x.cover(i, 0), (700 * f + 100 * f * (10 - f)) * 3 / 4);
            due("club(" + i + ")", x.cover(i, 1), 1100 * f + 100 * f * (10 - f) - (700 * f + 100 * f * (10 - f)) * 3 / 4);
            for (int j = 0; j < 4; j++) {
                if (i != j) {
                    due("paysTo(" + i + ", " + j + ")", x.paysTo(i, j), 100 * f * (j + 1));
                    due("would(" + i + ", " + j + ", 0)", x.would(i, j, 0), 0);
                }
            }
            for (int k = 0; k < 12; k++) {
                due("pays(" + i + ", " + k + ")", x.pays(i, k), k == 3 * i ? 0 : 100 * f);
            }
        }
        due("all()", x.all(), -10000);
        due("enough(): 2800 to claims, 2400 to ships by 1000", x.enough(), 6);
        x.law(3, 1);
        for (int k = 0; k < 12; k++) {
            int home = k / 3;
            int back = 0;
            for (int j = 0; j < 4; j++) {
                back += k % 3 != 0 || j == home ? 0 : 1000 * (j + 1) / (9 - home) - 100 * (j + 1);
            }
            due("back(" + k + ")", x.back(k), back);
            due("gets(" + k + ", 1)", x.gets(k, 1), 0);
        }
        x.become(3, 4, 1);
        due("GIVEN BACK", x.gets(9, 1), 166 + 333 + 500 - 600);
    }

    private static void fullAndPoor() {
        says("2 to 4.");
        BothToBlame x = told(full() + ";rate 0;lives 0");
        for (int i = 0; i < 4; i++) {
            due("net(" + i + ")", x.net(i), -1000 * (i + 1));
            due("bites(" + i + ")", x.bites(i), 1);
        }
        for (int k = 0; k < 12; k++) {
            due("gets(" + k + ", 0)", x.gets(k, 0), 0);
        }
        due("all()", x.all(), -10000);
        x.become(3, 0, 2);
        x.law(7, 1);
        x.law(5, 1);
        dueAll("the two that the last ship has", new long[] {x.paysTo(3, 0), x.paysTo(3, 1), x.paysTo(3, 2)}, 1, 1, 0);
    }

    public static void main(String[] args) {
        fullCase();
        fullAndPoor();
        told();
        weights();
        debts();
        backs();
        between();
        funds();
        rounds();
        shares();
        givenBack();
        cover();
        sums();
        laws();
        enough();
        tenths();
        judges();
        end("each sentence about debts and payments holds");
    }
}
