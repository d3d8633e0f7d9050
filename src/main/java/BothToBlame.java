import java.util.Arrays;
import java.util.NoSuchElementException;

/** A collision at sea, shared: who owes whom, what is paid, what each owner is left with. */
public final class BothToBlame {
    public static final int NONE = -1;
    public static final long NOTHING = -1000000000000L;

    // What is answered where there is none, though nothing is refused.
    private static final int ABSENT = -2;

    private static final int TAPE_BYTES = 600;
    private static final int FED_BYTES = 20;
    private static final int MOST_SHIPS = 4;
    private static final int MOST_CLAIMS = 12;
    private static final int MOST_ACTS = 10;
    private static final int IMAGES = 2;
    private static final int TENTHS = 10;
    private static final int NAME_LETTERS = 6;
    private static final int TOKEN_LENGTH = 7;
    private static final int LETTER_BITS = 5;
    private static final int LETTER_MASK = 31;

    // The columns of a ship, numbered as ship() and become() number them.
    private static final int TONS = 0;
    private static final int FAULT = 1;
    private static final int HULL = 2;
    private static final int VALUE = 3;
    private static final int CLAUSE = 4;
    private static final int BARRED = 5;
    private static final int SHIP_COLUMNS = 6;
    private static final int WEIGHT = 6;
    private static final int[] SHIP_LOW = {1, 0, 0, 0, 0, 0};
    private static final int[] SHIP_HIGH = {99999, 10, 9999999, 9999999, 1, 1};

    // The columns of a claim, numbered as claim() numbers them.
    private static final int KIND = 0;
    private static final int HOME = 1;
    private static final int AMOUNT = 2;
    private static final int DAY = 3;
    private static final int CLAIM_COLUMNS = 4;
    private static final int ROUND = 4;
    private static final int GOODS = 0;
    private static final int PERSONS = 1;
    private static final int OTHERS = 2;
    private static final int LAST_DAY = 999;
    private static final int MOST_MONEY = 9999999;

    // The laws, numbered as about() and law() number them.
    private static final int EQUAL = 2;
    private static final int WHOLE = 3;
    private static final int CROSS = 4;
    private static final int RATE = 5;
    private static final int LIVES = 6;
    private static final int LEAST = 7;
    private static final int DUE = 8;
    private static final int LAST = 9;
    private static final int LAW_COLUMNS = 10;
    private static final int ACTS_LEFT = 10;
    private static final int[] LAW_LOW = {0, 0, 0, 0, 0, 0, 0, 1, 0, 0};
    private static final int[] LAW_HIGH = {0, 0, 1, 1, 1, 99999, 99999, 99999, 999, 999};
    private static final int[] LAW_UNTOLD = {0, 0, 0, 0, 0, 100, 200, 300, 365, 730};
    private static final int LAW_BITS = 8;
    private static final int CROSS_BIT = 4;

    private static final long MOST_FUND = 2000000000L;
    private static final int MOST_RATE = 99999;
    private static final int NET_BOUND = 1000000000;
    private static final int MOST_JUDGES = 50;
    private static final long DRAW_FACTOR = 48271L;
    private static final int DRAW_MODULUS = 2147483647;

    // The numbers of trouble().
    private static final int ACCEPTED = 0;
    private static final int NONE_SUCH = 1;
    private static final int BAD_NUMBER = 2;
    private static final int NO_ROOM = 3;
    private static final int FAULTY_TEXT = 4;
    private static final int NOT_SO = 5;

    private final Reader reader = new Reader();
    private final Told now = new Told();
    private final Reckoning reckoning = new Reckoning();
    private final Told[] earlier = new Told[MOST_ACTS];
    private final Told[] images = new Told[IMAGES];
    private final boolean[] kept = new boolean[IMAGES];
    private int tapeLength = 0;
    private int undoable = 0;
    private int nextAct = 0;
    private int latestTrouble = ACCEPTED;
    private int latestPlace = NONE;
    private int latestFault = 0;

    public BothToBlame() {
        for (int a = 0; a < MOST_ACTS; a++) {
            earlier[a] = new Told();
        }
        for (int m = 0; m < IMAGES; m++) {
            images[m] = new Told();
        }
    }

    // ---- texts

    public int feed(int a, int b, int c, int d, int e) {
        if (tapeLength + FED_BYTES > TAPE_BYTES) {
            return NONE;
        }
        putBytes(a);
        putBytes(b);
        putBytes(c);
        putBytes(d);
        putBytes(e);
        return tapeLength;
    }

    public int text(int n) {
        if (!within(n, 0, tapeLength)) {
            return none(BAD_NUMBER);
        }
        tapeLength = 0;
        latestFault = reader.read(n);
        if (latestFault != 0) {
            latestTrouble = FAULTY_TEXT;
            latestPlace = reader.start;
            return NONE;
        }
        accept();
        now.copyFrom(reader.told);
        forgetActs();
        for (int m = 0; m < IMAGES; m++) {
            kept[m] = false;
        }
        return now.ships;
    }

    public int fault() {
        return latestFault;
    }

    public int where() {
        return latestPlace;
    }

    // ---- what is told

    public int about(int what) {
        if (!hasText() || !within(what, 0, ACTS_LEFT)) {
            return none(NONE_SUCH);
        }
        accept();
        if (what == 0) {
            return now.ships;
        }
        if (what == 1) {
            return now.claims;
        }
        return what == ACTS_LEFT ? undoable : now.laws[what];
    }

    public int ship(int i, int what) {
        if (!hasShip(i) || !within(what, 0, WEIGHT)) {
            return none(NONE_SUCH);
        }
        accept();
        return what == WEIGHT ? now.weightOf(i) : now.ofShip(i, what);
    }

    public int claim(int k, int what) {
        if (!hasClaim(k) || !within(what, 0, ROUND)) {
            return none(NONE_SUCH);
        }
        accept();
        return what == ROUND ? now.roundOf(k) : now.ofClaim(k, what);
    }

    // ---- debts

    public int part(int i, int sum) {
        if (!hasShip(i)) {
            return none(NONE_SUCH);
        }
        if (!within(sum, 0, MOST_MONEY)) {
            return none(BAD_NUMBER);
        }
        accept();
        reckon();
        return (int) reckoning.partOf(i, sum);
    }

    public int owes(int i, int k) {
        if (!hasShip(i) || !hasClaim(k)) {
            return none(NONE_SUCH);
        }
        accept();
        reckon();
        return (int) reckoning.owedToClaim(i, k);
    }

    public long between(int i, int j, int what) {
        if (!hasShip(i) || !hasShip(j) || !within(what, 0, 3)) {
            return none(NONE_SUCH);
        }
        if (i == j) {
            return none(NOT_SO);
        }
        accept();
        reckon();
        if (what == 0) {
            return reckoning.hullDebt(i, j);
        }
        if (what == 1) {
            return reckoning.backTo(i, j);
        }
        return what == 2 ? reckoning.crossDebt(i, j) : reckoning.owedToShip(i, j);
    }

    public long back(int k) {
        if (!hasClaim(k)) {
            return none(NONE_SUCH);
        }
        accept();
        reckon();
        return reckoning.backForClaim(k);
    }

    // ---- funds, what is paid

    public int fund(int i, int kind) {
        if (!hasShip(i) || !within(kind, 0, 1)) {
            return none(NONE_SUCH);
        }
        accept();
        return (int) now.fundOf(i, kind == 0 ? LIVES : RATE);
    }

    public int pays(int i, int k) {
        if (!hasShip(i) || !hasClaim(k)) {
            return none(NONE_SUCH);
        }
        accept();
        reckon();
        return (int) reckoning.paidToClaim(i, k);
    }

    public long paysTo(int i, int j) {
        if (!hasShip(i) || !hasShip(j)) {
            return none(NONE_SUCH);
        }
        if (i == j) {
            return none(NOT_SO);
        }
        accept();
        reckon();
        return reckoning.paidToShip(i, j);
    }

    public long sum(int i, int kind) {
        if (!hasShip(i) || !within(kind, 0, 1)) {
            return none(NONE_SUCH);
        }
        accept();
        reckon();
        return kind == 0 ? reckoning.owedByShip(i) : reckoning.paidByShip(i);
    }

    public int bites(int i) {
        if (!hasShip(i)) {
            return none(NONE_SUCH);
        }
        accept();
        reckon();
        return reckoning.paidByShip(i) < reckoning.owedByShip(i) ? 1 : 0;
    }

    public long gets(int k, int what) {
        if (!hasClaim(k) || !within(what, 0, 2)) {
            return none(NONE_SUCH);
        }
        accept();
        reckon();
        if (what == 0) {
            return reckoning.leftToClaim(k);
        }
        return what == 1 ? reckoning.givenBack(k) : reckoning.paidToClaimByAll(k);
    }

    public long cover(int i, int kind) {
        if (!hasShip(i) || !within(kind, 0, 1)) {
            return none(NONE_SUCH);
        }
        accept();
        reckon();
        long covered = reckoning.coveredOf(i);
        return kind == 0 ? covered : reckoning.paidByShip(i) - covered;
    }

    // ---- what owners are left with

    public long net(int i) {
        if (!hasShip(i)) {
            return nothing(NONE_SUCH);
        }
        accept();
        reckon();
        return reckoning.netOf(i);
    }

    public long netBy(int i, int laws) {
        if (!hasShip(i)) {
            return nothing(NONE_SUCH);
        }
        if (!within(laws, 0, LAW_BITS - 1)) {
            return nothing(BAD_NUMBER);
        }
        accept();
        return netUnder(i, laws);
    }

    public int wished(int i) {
        if (!hasShip(i)) {
            return none(NONE_SUCH);
        }
        accept();
        int best = 0;
        long most = netUnder(i, 0);
        for (int laws = 1; laws < LAW_BITS; laws++) {
            long left = netUnder(i, laws);
            if (left > most) {
                most = left;
                best = laws;
            }
        }
        return best;
    }

    public long gap(int i) {
        if (!hasShip(i)) {
            return nothing(NONE_SUCH);
        }
        accept();
        int single = now.laws[EQUAL] + 2 * now.laws[WHOLE];
        return netUnder(i, single + CROSS_BIT) - netUnder(i, single);
    }

    public int enough() {
        if (!hasText()) {
            return none(NONE_SUCH);
        }
        accept();
        reckon();
        long rate = 0;
        for (int i = 0; i < now.ships; i++) {
            rate = Math.max(rate, reckoning.rateNeeded(i));
        }
        return rate > MOST_RATE ? ABSENT : (int) rate;
    }

    public long would(int i, int j, int f) {
        if (!hasShip(i) || !hasShip(j)) {
            return nothing(NONE_SUCH);
        }
        if (i == j) {
            return nothing(NOT_SO);
        }
        if (!within(f, 0, tenthsOfBoth(i, j))) {
            return nothing(BAD_NUMBER);
        }
        accept();
        return netWithTenths(i, j, f);
    }

    public int worse(int i, int j, int n) {
        if (!hasShip(i) || !hasShip(j)) {
            return none(NONE_SUCH);
        }
        if (!within(n, -NET_BOUND, NET_BOUND)) {
            return none(BAD_NUMBER);
        }
        if (i == j) {
            return none(NOT_SO);
        }
        accept();
        int both = tenthsOfBoth(i, j);
        for (int f = 0; f <= both; f++) {
            if (netWithTenths(i, j, f) < n) {
                return f;
            }
        }
        return ABSENT;
    }

    public long judged(int i, int seed, int n, int what) {
        if (!hasShip(i) || !within(what, 0, 2)) {
            return nothing(NONE_SUCH);
        }
        if (!within(seed, 1, DRAW_MODULUS - 1) || !within(n, 1, MOST_JUDGES)) {
            return nothing(BAD_NUMBER);
        }
        accept();
        reckoning.take(now);
        long x = seed;
        long together = 0;
        long least = 0;
        long most = 0;
        for (int judge = 0; judge < n; judge++) {
            x = reckoning.told.drawFaults(x);
            reckoning.settle();
            long left = reckoning.netOf(i);
            together += left;
            least = judge == 0 ? left : Math.min(least, left);
            most = judge == 0 ? left : Math.max(most, left);
        }
        if (what == 0) {
            return together;
        }
        return what == 1 ? least : most;
    }

    public long all() {
        if (!hasText()) {
            return nothing(NONE_SUCH);
        }
        accept();
        reckon();
        long together = 0;
        for (int i = 0; i < now.ships; i++) {
            together += reckoning.netOf(i);
        }
        for (int k = 0; k < now.claims; k++) {
            together += reckoning.leftToClaim(k);
        }
        return together;
    }

    // ---- acts

    public int shift(int i, int j, int n) {
        if (!hasShip(i) || !hasShip(j)) {
            return none(NONE_SUCH);
        }
        if (!within(n, 1, TENTHS)) {
            return none(BAD_NUMBER);
        }
        if (i == j || now.ofShip(i, FAULT) < n) {
            return none(NOT_SO);
        }
        beginAct();
        now.setShip(i, FAULT, now.ofShip(i, FAULT) - n);
        now.setShip(j, FAULT, now.ofShip(j, FAULT) + n);
        return now.ofShip(j, FAULT);
    }

    public int file(int kind, int ship, int amount, int day) {
        if (!hasText() || !within(kind, GOODS, OTHERS) || (kind == GOODS && !hasShip(ship))) {
            return none(NONE_SUCH);
        }
        if (!within(amount, 1, MOST_MONEY) || !within(day, 0, LAST_DAY)) {
            return none(BAD_NUMBER);
        }
        if (now.claims >= MOST_CLAIMS) {
            return none(NO_ROOM);
        }
        beginAct();
        now.addClaim(kind, ship, amount, day);
        return now.claims - 1;
    }

    public int withdraw(int k) {
        if (!hasClaim(k)) {
            return none(NONE_SUCH);
        }
        beginAct();
        now.dropClaim(k);
        return now.claims;
    }

    public int become(int i, int what, int v) {
        if (!hasShip(i) || !within(what, TONS, BARRED) || what == FAULT) {
            return none(NONE_SUCH);
        }
        if (!within(v, SHIP_LOW[what], SHIP_HIGH[what])) {
            return none(BAD_NUMBER);
        }
        beginAct();
        int was = now.ofShip(i, what);
        now.setShip(i, what, v);
        return was;
    }

    public int law(int what, int v) {
        if (!hasText() || !within(what, EQUAL, LAST)) {
            return none(NONE_SUCH);
        }
        if (!within(v, LAW_LOW[what], LAW_HIGH[what])) {
            return none(BAD_NUMBER);
        }
        if ((what == DUE && now.laws[LAST] < v) || (what == LAST && v < now.laws[DUE])) {
            return none(NOT_SO);
        }
        beginAct();
        int was = now.laws[what];
        now.laws[what] = v;
        return was;
    }

    public int undo() {
        if (!hasText()) {
            return none(NONE_SUCH);
        }
        if (undoable == 0) {
            return none(NOT_SO);
        }
        accept();
        nextAct = (nextAct + MOST_ACTS - 1) % MOST_ACTS;
        undoable--;
        now.copyFrom(earlier[nextAct]);
        return undoable;
    }

    public boolean image(int i) {
        if (!hasText() || !within(i, 0, IMAGES - 1)) {
            return refuse(NONE_SUCH);
        }
        accept();
        images[i].copyFrom(now);
        kept[i] = true;
        return true;
    }

    public boolean again(int i) {
        if (!within(i, 0, IMAGES - 1) || !kept[i]) {
            return refuse(NONE_SUCH);
        }
        accept();
        now.copyFrom(images[i]);
        forgetActs();
        return true;
    }

    // ---- names

    public int letter(int i, int k) throws NoSuchElementException {
        if (!hasShip(i) || !within(k, 0, NAME_LETTERS - 1)) {
            throw new NoSuchElementException();
        }
        int sign = (int) (now.names[i] >> (LETTER_BITS * k)) & LETTER_MASK;
        if (sign == 0) {
            throw new NoSuchElementException();
        }
        return sign - 1;
    }

    public int size() {
        return tapeLength;
    }

    public int trouble() {
        return latestTrouble;
    }

    // ---- what the calls share

    private static boolean within(int v, int low, int high) {
        return v >= low && v <= high;
    }

    private boolean hasText() {
        return now.ships > 0;
    }

    private boolean hasShip(int i) {
        return within(i, 0, now.ships - 1);
    }

    private boolean hasClaim(int k) {
        return within(k, 0, now.claims - 1);
    }

    private void accept() {
        latestTrouble = ACCEPTED;
        latestPlace = NONE;
    }

    private boolean refuse(int number) {
        latestTrouble = number;
        latestPlace = NONE;
        return false;
    }

    private int none(int number) {
        refuse(number);
        return NONE;
    }

    private long nothing(int number) {
        refuse(number);
        return NOTHING;
    }

    private void putBytes(int four) {
        for (int moved = 24; moved >= 0 && tapeLength < TAPE_BYTES; moved -= 8) {
            reader.bytes[tapeLength] = (byte) (four >> moved);
            tapeLength++;
        }
    }

    private void beginAct() {
        accept();
        earlier[nextAct].copyFrom(now);
        nextAct = (nextAct + 1) % MOST_ACTS;
        undoable = Math.min(undoable + 1, MOST_ACTS);
    }

    private void forgetActs() {
        undoable = 0;
        nextAct = 0;
    }

    private void reckon() {
        reckoning.take(now);
        reckoning.settle();
    }

    private long netUnder(int i, int laws) {
        reckoning.take(now);
        reckoning.told.laws[EQUAL] = laws & 1;
        reckoning.told.laws[WHOLE] = (laws >> 1) & 1;
        reckoning.told.laws[CROSS] = (laws >> 2) & 1;
        reckoning.settle();
        return reckoning.netOf(i);
    }

    private int tenthsOfBoth(int i, int j) {
        return now.ofShip(i, FAULT) + now.ofShip(j, FAULT);
    }

    private long netWithTenths(int i, int j, int f) {
        reckoning.take(now);
        reckoning.told.setShip(i, FAULT, f);
        reckoning.told.setShip(j, FAULT, tenthsOfBoth(i, j) - f);
        reckoning.settle();
        return reckoning.netOf(i);
    }

    /** All that was told and has been changed since: ships, claims, laws. */
    private static final class Told {
        private int ships = 0;
        private int claims = 0;
        private final long[] names = new long[MOST_SHIPS];
        private final int[] shipRows = new int[MOST_SHIPS * SHIP_COLUMNS];
        private final int[] claimRows = new int[MOST_CLAIMS * CLAIM_COLUMNS];
        private final int[] laws = new int[LAW_COLUMNS];

        private void clear() {
            ships = 0;
            claims = 0;
            System.arraycopy(LAW_UNTOLD, 0, laws, 0, LAW_COLUMNS);
        }

        private void copyFrom(Told other) {
            ships = other.ships;
            claims = other.claims;
            System.arraycopy(other.names, 0, names, 0, names.length);
            System.arraycopy(other.shipRows, 0, shipRows, 0, shipRows.length);
            System.arraycopy(other.claimRows, 0, claimRows, 0, claimRows.length);
            System.arraycopy(other.laws, 0, laws, 0, laws.length);
        }

        private int ofShip(int i, int what) {
            return shipRows[i * SHIP_COLUMNS + what];
        }

        private void setShip(int i, int what, int v) {
            shipRows[i * SHIP_COLUMNS + what] = v;
        }

        private int ofClaim(int k, int what) {
            return claimRows[k * CLAIM_COLUMNS + what];
        }

        private boolean holds(int which) {
            return laws[which] == 1;
        }

        private boolean isGoods(int k) {
            return ofClaim(k, KIND) == GOODS;
        }

        private int shipNamed(long name) {
            for (int i = 0; i < ships; i++) {
                if (names[i] == name) {
                    return i;
                }
            }
            return NONE;
        }

        private void addShip(long name) {
            names[ships] = name;
            for (int what = 0; what < SHIP_COLUMNS; what++) {
                setShip(ships, what, 0);
            }
            ships++;
        }

        private void addClaim(int kind, int home, int amount, int day) {
            int row = claims * CLAIM_COLUMNS;
            claimRows[row + KIND] = kind;
            claimRows[row + HOME] = kind == GOODS ? home : ABSENT;
            claimRows[row + AMOUNT] = amount;
            claimRows[row + DAY] = day;
            claims++;
        }

        private void dropClaim(int k) {
            claims--;
            for (int at = k * CLAIM_COLUMNS; at < claims * CLAIM_COLUMNS; at++) {
                claimRows[at] = claimRows[at + CLAIM_COLUMNS];
            }
        }

        private int faultsTogether() {
            int together = 0;
            for (int i = 0; i < ships; i++) {
                together += ofShip(i, FAULT);
            }
            return together;
        }

        private int weightOf(int i) {
            int tenths = ofShip(i, FAULT);
            return holds(EQUAL) ? Math.min(tenths, 1) : tenths;
        }

        private int roundOf(int k) {
            int day = ofClaim(k, DAY);
            if (day > laws[LAST]) {
                return ABSENT;
            }
            return day > laws[DUE] ? 1 : 0;
        }

        private long fundTons(int i) {
            return Math.max(ofShip(i, TONS), laws[LEAST]);
        }

        private long fundOf(int i, int which) {
            return Math.min(fundTons(i) * laws[which], MOST_FUND);
        }

        /** One judge names a ship ten times; the answer is the x from which the next judge goes on. */
        private long drawFaults(long x) {
            for (int i = 0; i < ships; i++) {
                setShip(i, FAULT, 0);
            }
            long drawn = x;
            for (int tenth = 0; tenth < TENTHS && ships > 0; tenth++) {
                drawn = DRAW_FACTOR * drawn % DRAW_MODULUS;
                int named = (int) (drawn % ships);
                setShip(named, FAULT, ofShip(named, FAULT) + 1);
            }
            return drawn;
        }
    }

    /** Debts and payments of one case; it holds its own copy, so that other laws and faults can be tried. */
    private static final class Reckoning {
        // Ships stand ahead of claims in a row: the order in which odd ones of a fund are handed out.
        private static final int PARTIES = MOST_SHIPS + MOST_CLAIMS;

        private final Told told = new Told();
        private final int[] weight = new int[MOST_SHIPS];
        private final long[] backs = new long[MOST_SHIPS * MOST_SHIPS];
        private final long[] owed = new long[MOST_SHIPS * PARTIES];
        private final long[] paid = new long[MOST_SHIPS * PARTIES];
        private final long[] lacked = new long[PARTIES];
        private int weights = 0;

        private void take(Told other) {
            told.copyFrom(other);
        }

        private void settle() {
            Arrays.fill(owed, 0L);
            Arrays.fill(paid, 0L);
            Arrays.fill(backs, 0L);
            weigh();
            oweClaims();
            oweBack();
            oweShips();
            for (int i = 0; i < told.ships; i++) {
                if (told.ofShip(i, BARRED) == 1) {
                    payAll(i);
                } else {
                    payOutOf(i, LIVES);
                    payOutOf(i, RATE);
                }
            }
        }

        private static long cut(long above, long below) {
            return below == 0 ? 0 : above / below;
        }

        private void weigh() {
            weights = 0;
            for (int i = 0; i < told.ships; i++) {
                weight[i] = told.weightOf(i);
                weights += weight[i];
            }
        }

        private long partOf(int i, long amount) {
            return cut(amount * weight[i], weights);
        }

        private void oweClaims() {
            for (int i = 0; i < told.ships; i++) {
                for (int k = 0; k < told.claims; k++) {
                    owed[i * PARTIES + MOST_SHIPS + k] = debt(i, k);
                }
            }
        }

        private long debt(int i, int k) {
            if (told.roundOf(k) == ABSENT) {
                return 0;
            }
            long amount = told.ofClaim(k, AMOUNT);
            if (!told.isGoods(k)) {
                return partOf(i, amount);
            }
            int home = told.ofClaim(k, HOME);
            if (home == i) {
                return 0;
            }
            if (!told.holds(WHOLE)) {
                return partOf(i, amount);
            }
            return cut(amount * weight[i], weights - weight[home]);
        }

        /** What the ship on which goods were owes ship j back for them. */
        private long backFor(int k, int j) {
            boolean owesBack = told.holds(WHOLE) && told.isGoods(k) && told.roundOf(k) != ABSENT;
            if (!owesBack || told.ofClaim(k, HOME) == j) {
                return 0;
            }
            return owedToClaim(j, k) - partOf(j, told.ofClaim(k, AMOUNT));
        }

        private void oweBack() {
            for (int k = 0; k < told.claims; k++) {
                if (told.isGoods(k)) {
                    for (int j = 0; j < told.ships; j++) {
                        backs[told.ofClaim(k, HOME) * MOST_SHIPS + j] += backFor(k, j);
                    }
                }
            }
        }

        private void oweShips() {
            for (int i = 0; i < told.ships; i++) {
                for (int j = 0; j < told.ships; j++) {
                    if (i != j) {
                        long mine = crossDebt(i, j);
                        long off = told.holds(CROSS) ? 0 : Math.min(mine, crossDebt(j, i));
                        owed[i * PARTIES + j] = mine - off;
                    }
                }
            }
        }

        private long hullDebt(int i, int j) {
            return partOf(i, told.ofShip(j, HULL));
        }

        private long backTo(int i, int j) {
            return backs[i * MOST_SHIPS + j];
        }

        private long crossDebt(int i, int j) {
            return hullDebt(i, j) + backTo(i, j);
        }

        private long backForClaim(int k) {
            long together = 0;
            for (int j = 0; j < told.ships; j++) {
                together += backFor(k, j);
            }
            return together;
        }

        private void payAll(int i) {
            System.arraycopy(owed, i * PARTIES, paid, i * PARTIES, PARTIES);
        }

        private void payOutOf(int i, int which) {
            long left = told.fundOf(i, which);
            for (int round = 0; round <= 1; round++) {
                long together = findLacks(i, which, round);
                if (together > left) {
                    shareScarce(i, left, together);
                    left = 0;
                } else {
                    payLacks(i);
                    left -= together;
                }
            }
        }

        /** What each party of a round still lacks; the lives fund is for persons alone. */
        private long findLacks(int i, int which, int round) {
            long together = 0;
            for (int p = 0; p < PARTIES; p++) {
                lacked[p] = 0;
                if (takesPart(p, which, round)) {
                    lacked[p] = owed[i * PARTIES + p] - paid[i * PARTIES + p];
                    together += lacked[p];
                }
            }
            return together;
        }

        private boolean takesPart(int p, int which, int round) {
            if (p < MOST_SHIPS) {
                return p < told.ships && which == RATE && round == 0;
            }
            int k = p - MOST_SHIPS;
            if (k >= told.claims || told.roundOf(k) != round) {
                return false;
            }
            return which == RATE || told.ofClaim(k, KIND) == PERSONS;
        }

        private void payLacks(int i) {
            for (int p = 0; p < PARTIES; p++) {
                paid[i * PARTIES + p] += lacked[p];
            }
        }

        private void shareScarce(int i, long has, long together) {
            long left = has;
            for (int p = 0; p < PARTIES; p++) {
                long share = cut(lacked[p] * has, together);
                paid[i * PARTIES + p] += share;
                lacked[p] -= share;
                left -= share;
            }
            for (int p = 0; p < PARTIES && left > 0; p++) {
                if (lacked[p] > 0) {
                    paid[i * PARTIES + p]++;
                    left--;
                }
            }
        }

        private long owedToClaim(int i, int k) {
            return owed[i * PARTIES + MOST_SHIPS + k];
        }

        private long owedToShip(int i, int j) {
            return owed[i * PARTIES + j];
        }

        private long owedByShip(int i) {
            return rowTogether(owed, i);
        }

        private long paidToClaim(int i, int k) {
            return paid[i * PARTIES + MOST_SHIPS + k];
        }

        private long paidToShip(int i, int j) {
            return paid[i * PARTIES + j];
        }

        private long paidByShip(int i) {
            return rowTogether(paid, i);
        }

        private static long rowTogether(long[] rows, int i) {
            long together = 0;
            for (int p = 0; p < PARTIES; p++) {
                together += rows[i * PARTIES + p];
            }
            return together;
        }

        private long paidToClaimByAll(int k) {
            long together = 0;
            for (int i = 0; i < told.ships; i++) {
                together += paidToClaim(i, k);
            }
            return together;
        }

        private long givenBack(int k) {
            if (!told.isGoods(k) || told.ofShip(told.ofClaim(k, HOME), CLAUSE) == 0) {
                return 0;
            }
            return Math.min(backForClaim(k), paidToClaimByAll(k));
        }

        private long leftToClaim(int k) {
            return paidToClaimByAll(k) - givenBack(k);
        }

        private long netOf(int i) {
            long left = -paidByShip(i) - told.ofShip(i, HULL);
            for (int j = 0; j < told.ships; j++) {
                left += paidToShip(j, i);
            }
            for (int k = 0; k < told.claims; k++) {
                if (told.ofClaim(k, HOME) == i) {
                    left += givenBack(k);
                }
            }
            return left;
        }

        private long paidToPersons(int i) {
            long together = 0;
            for (int k = 0; k < told.claims; k++) {
                if (told.ofClaim(k, KIND) == PERSONS) {
                    together += paidToClaim(i, k);
                }
            }
            return together;
        }

        private static long threeQuarters(long amount) {
            return amount * 3 / 4;
        }

        private long coveredOf(int i) {
            long open = threeQuarters(paidByShip(i) - paidToPersons(i));
            return Math.min(open, threeQuarters(told.ofShip(i, VALUE)));
        }

        private long owedToPersons(int i) {
            long together = 0;
            for (int k = 0; k < told.claims; k++) {
                if (told.ofClaim(k, KIND) == PERSONS) {
                    together += owedToClaim(i, k);
                }
            }
            return together;
        }

        /** The least rate by which the rate fund of ship i is enough. */
        private long rateNeeded(int i) {
            if (told.ofShip(i, BARRED) == 1) {
                return 0;
            }
            long persons = owedToPersons(i);
            long needed = owedByShip(i) - Math.min(persons, told.fundOf(i, LIVES));
            long tons = told.fundTons(i);
            return cut(needed + tons - 1, tons);
        }
    }

    /** The words that have a meaning of their own, none of which is a name. */
    private enum Word {
        SHIP_WORD("ship", Word.OPENS_SHIP, 0),
        TONS_WORD("tons", Word.INSIDE, TONS),
        FAULT_WORD("fault", Word.INSIDE, FAULT),
        HULL_WORD("hull", Word.INSIDE, HULL),
        VALUE_WORD("value", Word.INSIDE, VALUE),
        CLAUSE_WORD("clause", Word.INSIDE, CLAUSE),
        BARRED_WORD("barred", Word.INSIDE, BARRED),
        DAY_WORD("day", Word.INSIDE, DAY),
        GOODS_WORD("goods", Word.OPENS_CLAIM, GOODS),
        PERSONS_WORD("persons", Word.OPENS_CLAIM, PERSONS),
        OTHERS_WORD("others", Word.OPENS_CLAIM, OTHERS),
        EQUAL_WORD("equal", Word.OPENS_LAW, EQUAL),
        WHOLE_WORD("whole", Word.OPENS_LAW, WHOLE),
        CROSS_WORD("cross", Word.OPENS_LAW, CROSS),
        RATE_WORD("rate", Word.OPENS_LAW, RATE),
        LIVES_WORD("lives", Word.OPENS_LAW, LIVES),
        LEAST_WORD("least", Word.OPENS_LAW, LEAST),
        DUE_WORD("due", Word.OPENS_LAW, DUE),
        LAST_WORD("last", Word.OPENS_LAW, LAST);

        private static final int INSIDE = 0;
        private static final int OPENS_SHIP = 1;
        private static final int OPENS_CLAIM = 2;
        private static final int OPENS_LAW = 3;

        private final long letters;
        private final int role;
        private final int column;

        Word(String written, int role, int column) {
            long packed = 0;
            for (int at = 0; at < written.length(); at++) {
                packed |= (long) (written.charAt(at) - 'a' + 1) << (LETTER_BITS * at);
            }
            this.letters = packed;
            this.role = role;
            this.column = column;
        }
    }

    /** The tape, and how a text on it is read: token by token from the left, up to its first fault. */
    private static final class Reader {
        private static final Word[] WORDS = Word.values();

        private static final int AT_END = 0;
        private static final int IS_WORD = 1;
        private static final int IS_WHOLE = 2;
        private static final int IS_SEMICOLON = 3;
        private static final int IS_WRONG = 4;

        private static final int FORM = 1;
        private static final int BOUNDS = 2;
        private static final int TOLD_AGAIN = 3;
        private static final int TOO_MANY = 4;
        private static final int DOES_NOT_FIT = 5;

        private final byte[] bytes = new byte[TAPE_BYTES];
        private final Told told = new Told();
        private final boolean[] lawTold = new boolean[LAW_COLUMNS];
        private int end = 0;
        private int next = 0;
        private int found = 0;

        // The token that is looked at: where it starts, what it is.
        private int start = 0;
        private int token = AT_END;
        private int length = 0;
        private long letters = 0;
        private int number = 0;

        /** The fault of the first n bytes, 0 if there is none; the fault's place is where the token starts. */
        private int read(int n) {
            begin(n);
            for (int lines = 0; lines <= end; lines++) {
                step();
                if (!readLine()) {
                    return found;
                }
                if (token == AT_END) {
                    return fitsTogether() ? 0 : DOES_NOT_FIT;
                }
                if (token != IS_SEMICOLON) {
                    return FORM;
                }
            }
            return FORM;
        }

        private void begin(int n) {
            end = n;
            next = 0;
            found = 0;
            told.clear();
            for (int what = 0; what < LAW_COLUMNS; what++) {
                lawTold[what] = false;
            }
        }

        private boolean fail(int fault) {
            found = fault;
            return false;
        }

        private boolean fitsTogether() {
            return told.ships >= 2 && told.faultsTogether() == TENTHS && told.laws[LAST] >= told.laws[DUE];
        }

        private boolean readLine() {
            Word word = fixedWord();
            if (word == null || word.role == Word.INSIDE) {
                return fail(FORM);
            }
            if (word.role == Word.OPENS_SHIP) {
                return readShip();
            }
            return word.role == Word.OPENS_CLAIM ? readClaim(word.column) : readLaw(word.column);
        }

        private boolean readShip() {
            if (told.ships >= MOST_SHIPS) {
                return fail(TOO_MANY);
            }
            step();
            if (!isName()) {
                return fail(FORM);
            }
            if (told.shipNamed(letters) != NONE) {
                return fail(TOLD_AGAIN);
            }
            told.addShip(letters);
            step();
            if (!readColumn(Word.TONS_WORD) || !readColumn(Word.FAULT_WORD)
                    || !readColumn(Word.HULL_WORD) || !readColumn(Word.VALUE_WORD)) {
                return false;
            }
            readMark(Word.CLAUSE_WORD);
            readMark(Word.BARRED_WORD);
            return true;
        }

        private boolean readColumn(Word word) {
            int what = word.column;
            if (fixedWord() != word) {
                return fail(FORM);
            }
            step();
            if (!isWholeWithin(SHIP_LOW[what], SHIP_HIGH[what])) {
                return false;
            }
            told.setShip(told.ships - 1, what, number);
            step();
            return true;
        }

        private void readMark(Word word) {
            if (fixedWord() == word) {
                told.setShip(told.ships - 1, word.column, 1);
                step();
            }
        }

        private boolean readClaim(int kind) {
            if (told.claims >= MOST_CLAIMS) {
                return fail(TOO_MANY);
            }
            step();
            int home = ABSENT;
            if (kind == GOODS) {
                if (!isName()) {
                    return fail(FORM);
                }
                home = told.shipNamed(letters);
                if (home == NONE) {
                    return fail(TOLD_AGAIN);
                }
                step();
            }
            if (!isWholeWithin(1, MOST_MONEY)) {
                return false;
            }
            int amount = number;
            step();
            if (fixedWord() != Word.DAY_WORD) {
                return fail(FORM);
            }
            step();
            if (!isWholeWithin(0, LAST_DAY)) {
                return false;
            }
            told.addClaim(kind, home, amount, number);
            step();
            return true;
        }

        private boolean readLaw(int what) {
            if (lawTold[what]) {
                return fail(TOLD_AGAIN);
            }
            lawTold[what] = true;
            step();
            if (what < RATE) {
                told.laws[what] = 1;
                return true;
            }
            if (!isWholeWithin(LAW_LOW[what], LAW_HIGH[what])) {
                return false;
            }
            told.laws[what] = number;
            step();
            return true;
        }

        private boolean isWholeWithin(int low, int high) {
            if (token != IS_WHOLE) {
                return fail(FORM);
            }
            return within(number, low, high) || fail(BOUNDS);
        }

        private boolean isName() {
            return token == IS_WORD && length <= NAME_LETTERS && fixedWord() == null;
        }

        private Word fixedWord() {
            if (token != IS_WORD) {
                return null;
            }
            for (int w = 0; w < WORDS.length; w++) {
                if (WORDS[w].letters == letters) {
                    return WORDS[w];
                }
            }
            return null;
        }

        private void step() {
            while (next < end && bytes[next] == ' ') {
                next++;
            }
            start = next;
            if (next >= end) {
                token = AT_END;
            } else if (isLetter(bytes[next])) {
                stepLetters();
            } else if (isDigit(bytes[next])) {
                stepDigits();
            } else {
                token = bytes[next] == ';' ? IS_SEMICOLON : IS_WRONG;
                next++;
            }
        }

        private void stepLetters() {
            letters = 0;
            length = 0;
            while (next < end && isLetter(bytes[next])) {
                if (length < TOKEN_LENGTH) {
                    letters |= (long) (bytes[next] - 'a' + 1) << (LETTER_BITS * length);
                }
                length++;
                next++;
            }
            token = length <= TOKEN_LENGTH ? IS_WORD : IS_WRONG;
        }

        private void stepDigits() {
            number = 0;
            length = 0;
            while (next < end && isDigit(bytes[next])) {
                if (length < TOKEN_LENGTH) {
                    number = number * 10 + bytes[next] - '0';
                }
                length++;
                next++;
            }
            token = length <= TOKEN_LENGTH ? IS_WHOLE : IS_WRONG;
        }

        private static boolean isLetter(byte sign) {
            return sign >= 'a' && sign <= 'z';
        }

        private static boolean isDigit(byte sign) {
            return sign >= '0' && sign <= '9';
        }
    }
}
