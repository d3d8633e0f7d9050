import java.math.BigInteger;
import java.nio.charset.StandardCharsets;
import java.util.ArrayDeque;
import java.util.ArrayList;
import java.util.Deque;
import java.util.HashSet;
import java.util.List;
import java.util.NoSuchElementException;
import java.util.Random;
import java.util.Set;

/** Random runs of calls, beside a slow second program that was written from the document's words alone. */
public final class ModelTest {
    private static final long NOTHING = -1000000000000L;
    private static int wrong = 0;
    private static int calls = 0;
    private static final int[] TROUBLES = new int[6];
    private static final int[] FAULTS = new int[6];
    private static int bitten = 0;
    private static int given = 0;

    // ---------------------------------------------------------------- the second program

    private record Ship(String name, int tons, int fault, int hull, int value, boolean clause, boolean barred) {
        Ship withFault(int f) {
            return new Ship(name, tons, f, hull, value, clause, barred);
        }
    }

    private record Claim(int kind, int ship, int amount, int day) {
    }

    private record Case(List<Ship> ships, List<Claim> claims, boolean equal, boolean whole, boolean cross,
            int rate, int lives, int least, int due, int last) {

        Case withShips(List<Ship> others) {
            return new Case(others, claims, equal, whole, cross, rate, lives, least, due, last);
        }

        Case withClaims(List<Claim> others) {
            return new Case(ships, others, equal, whole, cross, rate, lives, least, due, last);
        }

        Case withShip(int i, Ship s) {
            List<Ship> others = new ArrayList<>(ships);
            others.set(i, s);
            return withShips(others);
        }

        Case withLaws(int bits) {
            return new Case(ships, claims, (bits & 1) != 0, (bits & 2) != 0, (bits & 4) != 0,
                    rate, lives, least, due, last);
        }

        Case withNumbers(int r, int l, int le, int d, int la) {
            return new Case(ships, claims, equal, whole, cross, r, l, le, d, la);
        }

        int bits() {
            return (equal ? 1 : 0) + (whole ? 2 : 0) + (cross ? 4 : 0);
        }

        long weight(int i) {
            int f = ships.get(i).fault();
            return equal ? (f > 0 ? 1 : 0) : f;
        }

        long weights(int without) {
            long w = 0;
            for (int i = 0; i < ships.size(); i++) {
                if (i != without) {
                    w += weight(i);
                }
            }
            return w;
        }

        long part(int i, long sum) {
            return sum * weight(i) / weights(-1);
        }

        int round(int k) {
            int day = claims.get(k).day();
            return day <= due ? 0 : day <= last ? 1 : -2;
        }

        long debt(int i, int k) {
            Claim c = claims.get(k);
            if (c.day() > last) {
                return 0;
            }
            if (c.kind() != 0) {
                return part(i, c.amount());
            }
            if (c.ship() == i) {
                return 0;
            }
            if (whole) {
                long w = weights(c.ship());
                return w == 0 ? 0 : c.amount() * weight(i) / w;
            }
            return part(i, c.amount());
        }

        long backOne(int k, int j) {
            Claim c = claims.get(k);
            if (!whole || c.kind() != 0 || c.ship() == j || c.day() > last) {
                return 0;
            }
            return debt(j, k) - part(j, c.amount());
        }

        long backAll(int k) {
            long b = 0;
            for (int j = 0; j < ships.size(); j++) {
                b += backOne(k, j);
            }
            return b;
        }

        long between(int i, int j, int what) {
            long hull = part(i, ships.get(j).hull());
            long back = 0;
            for (int k = 0; k < claims.size(); k++) {
                if (claims.get(k).kind() == 0 && claims.get(k).ship() == i) {
                    back += backOne(k, j);
                }
            }
            switch (what) {
                case 0: return hull;
                case 1: return back;
                case 2: return hull + back;
                default:
                    if (cross) {
                        return hull + back;
                    }
                    long other = between(j, i, 2);
                    return Math.max(0, hull + back - other);
            }
        }

        long fund(int i, int by) {
            return Math.min(2000000000L, (long) Math.max(ships.get(i).tons(), least) * by);
        }

        /** What ship i pays: first to ships, then to claims. */
        long[] payments(int i) {
            int s = ships.size();
            int n = s + claims.size();
            long[] owed = new long[n];
            for (int j = 0; j < s; j++) {
                owed[j] = i == j ? 0 : between(i, j, 3);
            }
            for (int k = 0; k < claims.size(); k++) {
                owed[s + k] = debt(i, k);
            }
            if (ships.get(i).barred()) {
                return owed;
            }
            long[] paid = new long[n];
            BigInteger left = BigInteger.valueOf(fund(i, lives));
            for (int r = 0; r < 2; r++) {
                List<Integer> who = new ArrayList<>();
                for (int k = 0; k < claims.size(); k++) {
                    if (claims.get(k).kind() == 1 && round(k) == r) {
                        who.add(s + k);
                    }
                }
                left = shared(who, owed, paid, left);
            }
            left = BigInteger.valueOf(fund(i, rate));
            for (int r = 0; r < 2; r++) {
                List<Integer> who = new ArrayList<>();
                for (int j = 0; j < s && r == 0; j++) {
                    who.add(j);
                }
                for (int k = 0; k < claims.size(); k++) {
                    if (round(k) == r) {
                        who.add(s + k);
                    }
                }
                left = shared(who, owed, paid, left);
            }
            return paid;
        }

        private static BigInteger shared(List<Integer> who, long[] owed, long[] paid, BigInteger has) {
            BigInteger all = BigInteger.ZERO;
            long[] asked = new long[owed.length];
            for (int p : who) {
                asked[p] = owed[p] - paid[p];
                all = all.add(BigInteger.valueOf(asked[p]));
            }
            if (all.compareTo(has) <= 0) {
                for (int p : who) {
                    paid[p] += asked[p];
                }
                return has.subtract(all);
            }
            BigInteger left = has;
            long[] got = new long[owed.length];
            for (int p : who) {
                got[p] = BigInteger.valueOf(asked[p]).multiply(has).divide(all).longValueExact();
                left = left.subtract(BigInteger.valueOf(got[p]));
            }
            for (int p : who) {
                if (left.signum() > 0 && got[p] < asked[p]) {
                    got[p]++;
                    left = left.subtract(BigInteger.ONE);
                }
            }
            if (left.signum() != 0) {
                throw new IllegalStateException("the second program left something in a scarce fund");
            }
            for (int p : who) {
                paid[p] += got[p];
            }
            return left;
        }

        long owedAll(int i) {
            long all = 0;
            for (int j = 0; j < ships.size(); j++) {
                all += i == j ? 0 : between(i, j, 3);
            }
            for (int k = 0; k < claims.size(); k++) {
                all += debt(i, k);
            }
            return all;
        }

        long paidAll(int i) {
            long all = 0;
            for (long p : payments(i)) {
                all += p;
            }
            return all;
        }

        long paidTo(int k) {
            long all = 0;
            for (int i = 0; i < ships.size(); i++) {
                all += payments(i)[ships.size() + k];
            }
            return all;
        }

        long givenBack(int k) {
            Claim c = claims.get(k);
            if (c.kind() != 0 || !ships.get(c.ship()).clause()) {
                return 0;
            }
            return Math.min(backAll(k), paidTo(k));
        }

        long net(int i) {
            long n = -ships.get(i).hull() - paidAll(i);
            for (int j = 0; j < ships.size(); j++) {
                if (j != i) {
                    n += payments(j)[i];
                }
            }
            for (int k = 0; k < claims.size(); k++) {
                if (claims.get(k).ship() == i) {
                    n += givenBack(k);
                }
            }
            return n;
        }

        long cover(int i, int kind) {
            long[] p = payments(i);
            long open = 0;
            long persons = 0;
            for (int q = 0; q < p.length; q++) {
                if (q >= ships.size() && claims.get(q - ships.size()).kind() == 1) {
                    persons += p[q];
                } else {
                    open += p[q];
                }
            }
            long cov = Math.min(open * 3 / 4, ships.get(i).value() * 3L / 4);
            return kind == 0 ? cov : open + persons - cov;
        }

        boolean rateIsEnough(int r) {
            Case c = withNumbers(r, lives, least, due, last);
            for (int i = 0; i < ships.size(); i++) {
                if (!ships.get(i).barred() && c.paidAll(i) < c.owedAll(i)) {
                    return false;
                }
            }
            return true;
        }

        int enough() {
            if (!rateIsEnough(99999)) {
                return -2;
            }
            int low = 0;
            int high = 99999;
            while (low < high) {
                int mid = (low + high) / 2;
                if (rateIsEnough(mid)) {
                    high = mid;
                } else {
                    low = mid + 1;
                }
            }
            return low;
        }

        long would(int i, int j, int f) {
            int both = ships.get(i).fault() + ships.get(j).fault();
            return withShip(i, ships.get(i).withFault(f)).withShip(j, ships.get(j).withFault(both - f)).net(i);
        }
    }

    private record Token(int place, String word) {
    }

    private static final class Read extends Exception {
        private static final long serialVersionUID = 1L;
        final int fault;
        final int place;

        Read(int fault, int place) {
            this.fault = fault;
            this.place = place;
        }
    }

    private static final Set<String> KEPT_WORDS = Set.of("ship", "tons", "fault", "hull", "value", "clause", "barred",
            "goods", "day", "equal", "whole", "cross", "rate", "lives", "least", "due", "last", "others");

    private static List<Token> tokens(byte[] bytes) {
        List<Token> list = new ArrayList<>();
        String s = new String(bytes, StandardCharsets.ISO_8859_1);
        int at = 0;
        while (at < s.length()) {
            int from = at;
            String rest = s.substring(at);
            if (rest.startsWith(" ")) {
                at++;
                continue;
            }
            String word = rest.replaceFirst("(?s)^([a-z]+|[0-9]+|.).*$", "$1");
            at += word.length();
            list.add(new Token(from, word.matches("[a-z]{1,7}|[0-9]{1,7}|;") ? word : "!"));
        }
        list.add(new Token(s.length(), "."));
        return list;
    }

    /** A reader with a list of tokens and a place in it. */
    private static final class Second {
        final List<Token> list;
        int at = 0;
        final List<Ship> ships = new ArrayList<>();
        final List<Claim> claims = new ArrayList<>();
        final Set<String> laws = new HashSet<>();
        final int[] numbers = {100, 200, 300, 365, 730};

        Second(byte[] bytes) {
            list = tokens(bytes);
        }

        String word() {
            return list.get(at).word();
        }

        Read wrong(int fault) {
            return new Read(fault, list.get(at).place());
        }

        void want(String w) throws Read {
            if (!word().equals(w)) {
                throw wrong(1);
            }
            at++;
        }

        int whole(int low, int high) throws Read {
            if (!word().matches("[0-9]+")) {
                throw wrong(1);
            }
            int v = Integer.parseInt(word());
            if (v < low || v > high) {
                throw wrong(2);
            }
            at++;
            return v;
        }

        int nameAt(boolean fresh) throws Read {
            if (!word().matches("[a-z]{1,6}") || KEPT_WORDS.contains(word())) {
                throw wrong(1);
            }
            int found = -1;
            for (int i = 0; i < ships.size(); i++) {
                if (ships.get(i).name().equals(word())) {
                    found = i;
                }
            }
            if (fresh == (found >= 0)) {
                throw wrong(3);
            }
            at++;
            return found;
        }

        boolean mark(String w) {
            if (word().equals(w)) {
                at++;
                return true;
            }
            return false;
        }

        void line() throws Read {
            String w = word();
            switch (w) {
                case "ship": {
                    if (ships.size() == 4) {
                        throw wrong(4);
                    }
                    at++;
                    String name = word();
                    nameAt(true);
                    want("tons");
                    int tons = whole(1, 99999);
                    want("fault");
                    int fault = whole(0, 10);
                    want("hull");
                    int hull = whole(0, 9999999);
                    want("value");
                    int value = whole(0, 9999999);
                    boolean clause = mark("clause");
                    boolean barred = mark("barred");
                    ships.add(new Ship(name, tons, fault, hull, value, clause, barred));
                    return;
                }
                case "goods":
                case "persons":
                case "others": {
                    if (claims.size() == 12) {
                        throw wrong(4);
                    }
                    at++;
                    int ship = w.equals("goods") ? nameAt(false) : -2;
                    int amount = whole(1, 9999999);
                    want("day");
                    int day = whole(0, 999);
                    claims.add(new Claim(List.of("goods", "persons", "others").indexOf(w), ship, amount, day));
                    return;
                }
                default: {
                    int which = List.of("equal", "whole", "cross", "rate", "lives", "least", "due", "last").indexOf(w);
                    if (which < 0) {
                        throw wrong(1);
                    }
                    if (!laws.add(w)) {
                        throw wrong(3);
                    }
                    at++;
                    if (which >= 3) {
                        numbers[which - 3] = whole(which == 5 ? 1 : 0, which < 6 ? 99999 : 999);
                    }
                }
            }
        }

        Case text() throws Read {
            line();
            while (word().equals(";")) {
                at++;
                line();
            }
            want(".");
            at--;
            int tenths = 0;
            for (Ship s : ships) {
                tenths += s.fault();
            }
            if (ships.size() < 2 || tenths != 10 || numbers[4] < numbers[3]) {
                throw wrong(5);
            }
            return new Case(ships, claims, laws.contains("equal"), laws.contains("whole"), laws.contains("cross"),
                    numbers[0], numbers[1], numbers[2], numbers[3], numbers[4]);
        }
    }

    /** The second program as an object: each call checks the answer of the first one. */
    private static final class Pair {
        final BothToBlame real = new BothToBlame();
        final Random random;
        final StringBuilder log = new StringBuilder();
        byte[] tape = new byte[0];
        Case now = null;
        final Deque<Case> earlier = new ArrayDeque<>();
        final Case[] images = new Case[2];
        int trouble = 0;
        int where = -1;
        int fault = 0;

        Pair(long seed) {
            random = new Random(seed);
        }

        void due(String call, long got, long want) {
            calls++;
            log.append(call).append(" = ").append(got).append('\n');
            if (got != want) {
                wrong++;
                if (wrong <= 5) {
                    System.out.println(log);
                    System.out.println("the last answer: due is " + want);
                }
            }
        }

        void state() {
            due("trouble()", real.trouble(), trouble);
            due("where()", real.where(), where);
            due("fault()", real.fault(), fault);
            due("size()", real.size(), tape.length);
            TROUBLES[trouble]++;
        }

        /** Sets trouble, and says whether the call goes on; pairs of a number and whether it is so. */
        boolean goesOn(int number) {
            trouble = number;
            where = -1;
            return number == 0;
        }

        boolean ship(int i) {
            return now != null && i >= 0 && i < now.ships().size();
        }

        boolean claim(int k) {
            return now != null && k >= 0 && k < now.claims().size();
        }

        void feedText(String s) {
            byte[] bytes = s.getBytes(StandardCharsets.ISO_8859_1);
            int rows = (bytes.length + 19) / 20;
            for (int r = 0; r < rows; r++) {
                int[] five = new int[5];
                byte[] more = new byte[20];
                for (int b = 0; b < 20; b++) {
                    int v = r * 20 + b < bytes.length ? bytes[r * 20 + b] & 255 : 32;
                    more[b] = (byte) v;
                    five[b / 4] = five[b / 4] << 8 | v;
                }
                boolean room = tape.length + 20 <= 600;
                if (room) {
                    byte[] longer = java.util.Arrays.copyOf(tape, tape.length + 20);
                    System.arraycopy(more, 0, longer, tape.length, 20);
                    tape = longer;
                }
                due("feed", real.feed(five[0], five[1], five[2], five[3], five[4]), room ? tape.length : -1);
            }
        }

        void text(int n) {
            long want = -1;
            if (goesOn(n < 0 || n > tape.length ? 2 : 0)) {
                try {
                    now = new Second(java.util.Arrays.copyOf(tape, n)).text();
                    fault = 0;
                    want = now.ships().size();
                    earlier.clear();
                    images[0] = null;
                    images[1] = null;
                } catch (Read r) {
                    fault = r.fault;
                    trouble = 4;
                    where = r.place;
                }
                FAULTS[fault]++;
                log.append(new String(tape, 0, n, StandardCharsets.ISO_8859_1)).append('\n');
                tape = new byte[0];
            }
            due("text(" + n + ")", real.text(n), want);
            state();
        }

        int some(int low, int high) {
            if (random.nextInt(40) == 0) {
                int[] odd = {Integer.MIN_VALUE, Integer.MAX_VALUE, -1, -2, low - 1, high + 1, 0, 100000, 10000000};
                return odd[random.nextInt(odd.length)];
            }
            return low + random.nextInt(high - low + 1);
        }

        int someShip() {
            return some(0, now == null ? 1 : now.ships().size() - 1);
        }

        int someClaim() {
            return some(0, now == null ? 1 : Math.max(0, now.claims().size() - 1));
        }

        void act(Case then) {
            earlier.push(now);
            if (earlier.size() > 10) {
                earlier.removeLast();
            }
            now = then;
        }

        int lawOf(int what) {
            int[] all = {now.ships().size(), now.claims().size(), now.equal() ? 1 : 0, now.whole() ? 1 : 0,
                now.cross() ? 1 : 0, now.rate(), now.lives(), now.least(), now.due(), now.last(), earlier.size()};
            return all[what];
        }

        int ofShip(int i, int what) {
            Ship s = now.ships().get(i);
            int[] all = {s.tons(), s.fault(), s.hull(), s.value(), s.clause() ? 1 : 0, s.barred() ? 1 : 0,
                (int) now.weight(i)};
            return all[what];
        }

        void ask(int which) {
            int i = someShip();
            int j = someShip();
            int k = someClaim();
            switch (which) {
                case 0: {
                    int what = some(0, 10);
                    long want = goesOn(now == null || what < 0 || what > 10 ? 1 : 0) ? lawOf(what) : -1;
                    due("about(" + what + ")", real.about(what), want);
                    break;
                }
                case 1: {
                    int what = some(0, 6);
                    long want = goesOn(!ship(i) || what < 0 || what > 6 ? 1 : 0) ? ofShip(i, what) : -1;
                    due("ship(" + i + ", " + what + ")", real.ship(i, what), want);
                    break;
                }
                case 2: {
                    int what = some(0, 4);
                    long want = -1;
                    if (goesOn(!claim(k) || what < 0 || what > 4 ? 1 : 0)) {
                        Claim c = now.claims().get(k);
                        want = new int[] {c.kind(), c.ship(), c.amount(), c.day(), now.round(k)}[what];
                    }
                    due("claim(" + k + ", " + what + ")", real.claim(k, what), want);
                    break;
                }
                case 3: {
                    int sum = some(0, 9999999);
                    long want = goesOn(!ship(i) ? 1 : sum < 0 || sum > 9999999 ? 2 : 0) ? now.part(i, sum) : -1;
                    due("part(" + i + ", " + sum + ")", real.part(i, sum), want);
                    break;
                }
                case 4: {
                    long want = goesOn(!ship(i) || !claim(k) ? 1 : 0) ? now.debt(i, k) : -1;
                    due("owes(" + i + ", " + k + ")", real.owes(i, k), want);
                    break;
                }
                case 5: {
                    int what = some(0, 3);
                    boolean such = ship(i) && ship(j) && what >= 0 && what <= 3;
                    long want = goesOn(!such ? 1 : i == j ? 5 : 0) ? now.between(i, j, what) : -1;
                    due("between(" + i + ", " + j + ", " + what + ")", real.between(i, j, what), want);
                    break;
                }
                case 6: {
                    long want = goesOn(!claim(k) ? 1 : 0) ? now.backAll(k) : -1;
                    due("back(" + k + ")", real.back(k), want);
                    break;
                }
                case 7: {
                    int kind = some(0, 1);
                    long want = -1;
                    if (goesOn(!ship(i) || kind < 0 || kind > 1 ? 1 : 0)) {
                        want = now.fund(i, kind == 0 ? now.lives() : now.rate());
                    }
                    due("fund(" + i + ", " + kind + ")", real.fund(i, kind), want);
                    break;
                }
                case 8: {
                    long want = goesOn(!ship(i) || !claim(k) ? 1 : 0) ? now.payments(i)[now.ships().size() + k] : -1;
                    due("pays(" + i + ", " + k + ")", real.pays(i, k), want);
                    break;
                }
                case 9: {
                    long want = goesOn(!ship(i) || !ship(j) ? 1 : i == j ? 5 : 0) ? now.payments(i)[j] : -1;
                    due("paysTo(" + i + ", " + j + ")", real.paysTo(i, j), want);
                    break;
                }
                case 10: {
                    int kind = some(0, 1);
                    long want = -1;
                    if (goesOn(!ship(i) || kind < 0 || kind > 1 ? 1 : 0)) {
                        want = kind == 0 ? now.owedAll(i) : now.paidAll(i);
                    }
                    due("sum(" + i + ", " + kind + ")", real.sum(i, kind), want);
                    break;
                }
                case 11: {
                    long want = goesOn(!ship(i) ? 1 : 0) ? (now.paidAll(i) < now.owedAll(i) ? 1 : 0) : -1;
                    bitten += want == 1 ? 1 : 0;
                    due("bites(" + i + ")", real.bites(i), want);
                    break;
                }
                case 12: {
                    int what = some(0, 2);
                    long want = -1;
                    if (goesOn(!claim(k) || what < 0 || what > 2 ? 1 : 0)) {
                        long paid = now.paidTo(k);
                        long back = now.givenBack(k);
                        given += back > 0 ? 1 : 0;
                        want = new long[] {paid - back, back, paid}[what];
                    }
                    due("gets(" + k + ", " + what + ")", real.gets(k, what), want);
                    break;
                }
                case 13: {
                    int kind = some(0, 1);
                    long want = goesOn(!ship(i) || kind < 0 || kind > 1 ? 1 : 0) ? now.cover(i, kind) : -1;
                    due("cover(" + i + ", " + kind + ")", real.cover(i, kind), want);
                    break;
                }
                case 14: {
                    long want = goesOn(!ship(i) ? 1 : 0) ? now.net(i) : NOTHING;
                    due("net(" + i + ")", real.net(i), want);
                    break;
                }
                default:
                    askMore(which, i, j);
            }
        }

        void askMore(int which, int i, int j) {
            switch (which) {
                case 15: {
                    int laws = some(0, 7);
                    long want = goesOn(!ship(i) ? 1 : laws < 0 || laws > 7 ? 2 : 0) ? now.withLaws(laws).net(i) : NOTHING;
                    due("netBy(" + i + ", " + laws + ")", real.netBy(i, laws), want);
                    break;
                }
                case 16: {
                    long want = -1;
                    if (goesOn(!ship(i) ? 1 : 0)) {
                        want = 0;
                        for (int l = 7; l >= 0; l--) {
                            want = now.withLaws(l).net(i) >= now.withLaws((int) want).net(i) ? l : want;
                        }
                    }
                    due("wished(" + i + ")", real.wished(i), want);
                    break;
                }
                case 17: {
                    long want = NOTHING;
                    if (goesOn(!ship(i) ? 1 : 0)) {
                        want = now.withLaws(now.bits() | 4).net(i) - now.withLaws(now.bits() & 3).net(i);
                    }
                    due("gap(" + i + ")", real.gap(i), want);
                    break;
                }
                case 18: {
                    long want = goesOn(now == null ? 1 : 0) ? now.enough() : -1;
                    due("enough()", real.enough(), want);
                    break;
                }
                case 19: {
                    int f = some(0, 10);
                    int number = !ship(i) || !ship(j) ? 1 : i == j ? 5 : 0;
                    if (number == 0 && (f < 0 || f > now.ships().get(i).fault() + now.ships().get(j).fault())) {
                        number = 2;
                    }
                    long want = goesOn(number) ? now.would(i, j, f) : NOTHING;
                    due("would(" + i + ", " + j + ", " + f + ")", real.would(i, j, f), want);
                    break;
                }
                case 20: {
                    int n = random.nextInt(10) == 0 ? some(-1000000000, 1000000000) : some(-20000000, 1000);
                    if (ship(i) && random.nextBoolean()) {
                        n = (int) now.net(i) + random.nextInt(3) - 1;
                    }
                    int number = !ship(i) || !ship(j) ? 1 : n < -1000000000 || n > 1000000000 ? 2 : i == j ? 5 : 0;
                    long want = -1;
                    if (goesOn(number)) {
                        want = -2;
                        for (int f = now.ships().get(i).fault() + now.ships().get(j).fault(); f >= 0; f--) {
                            want = now.would(i, j, f) < n ? f : want;
                        }
                    }
                    due("worse(" + i + ", " + j + ", " + n + ")", real.worse(i, j, n), want);
                    break;
                }
                case 21:
                    judges(i);
                    break;
                default: {
                    long want = NOTHING;
                    if (goesOn(now == null ? 1 : 0)) {
                        want = 0;
                        for (int s = 0; s < now.ships().size(); s++) {
                            want += now.net(s);
                        }
                        for (int c = 0; c < now.claims().size(); c++) {
                            want += now.paidTo(c) - now.givenBack(c);
                        }
                    }
                    due("all()", real.all(), want);
                }
            }
        }

        void judges(int i) {
            int seed = random.nextBoolean() ? some(1, 2147483646) : some(1, 1000);
            int n = random.nextInt(4) == 0 ? some(1, 50) : some(1, 4);
            int what = some(0, 2);
            long want = NOTHING;
            boolean such = ship(i) && what >= 0 && what <= 2;
            if (goesOn(!such ? 1 : seed < 1 || seed > 2147483646 || n < 1 || n > 50 ? 2 : 0)) {
                BigInteger x = BigInteger.valueOf(seed);
                List<Long> nets = new ArrayList<>();
                for (int judge = 0; judge < n; judge++) {
                    int[] faults = new int[now.ships().size()];
                    for (int t = 0; t < 10; t++) {
                        x = x.multiply(BigInteger.valueOf(48271)).mod(BigInteger.valueOf(2147483647));
                        faults[x.mod(BigInteger.valueOf(faults.length)).intValue()]++;
                    }
                    Case c = now;
                    for (int s = 0; s < faults.length; s++) {
                        c = c.withShip(s, c.ships().get(s).withFault(faults[s]));
                    }
                    nets.add(c.net(i));
                }
                want = what == 0 ? nets.stream().mapToLong(v -> v).sum()
                        : what == 1 ? nets.stream().mapToLong(v -> v).min().getAsLong()
                        : nets.stream().mapToLong(v -> v).max().getAsLong();
            }
            due("judged(" + i + ", " + seed + ", " + n + ", " + what + ")", real.judged(i, seed, n, what), want);
        }

        void change(int which) {
            int i = someShip();
            switch (which) {
                case 0: {
                    int j = someShip();
                    int n = some(1, random.nextBoolean() ? 3 : 10);
                    int number = !ship(i) || !ship(j) ? 1 : n < 1 || n > 10 ? 2
                            : i == j || now.ships().get(i).fault() < n ? 5 : 0;
                    long want = -1;
                    if (goesOn(number)) {
                        Ship a = now.ships().get(i);
                        Ship b = now.ships().get(j);
                        act(now.withShip(i, a.withFault(a.fault() - n)).withShip(j, b.withFault(b.fault() + n)));
                        want = now.ships().get(j).fault();
                    }
                    due("shift(" + i + ", " + j + ", " + n + ")", real.shift(i, j, n), want);
                    break;
                }
                case 1: {
                    int kind = some(0, 2);
                    int amount = random.nextBoolean() ? some(1, 500) : some(1, 9999999);
                    int day = some(0, 999);
                    int number = now == null || kind < 0 || kind > 2 || kind == 0 && !ship(i) ? 1
                            : amount < 1 || amount > 9999999 || day < 0 || day > 999 ? 2
                            : now.claims().size() == 12 ? 3 : 0;
                    long want = -1;
                    if (goesOn(number)) {
                        List<Claim> more = new ArrayList<>(now.claims());
                        more.add(new Claim(kind, kind == 0 ? i : -2, amount, day));
                        act(now.withClaims(more));
                        want = more.size() - 1;
                    }
                    due("file(" + kind + ", " + i + ", " + amount + ", " + day + ")",
                            real.file(kind, i, amount, day), want);
                    break;
                }
                case 2: {
                    int k = someClaim();
                    long want = -1;
                    if (goesOn(!claim(k) ? 1 : 0)) {
                        List<Claim> fewer = new ArrayList<>(now.claims());
                        fewer.remove(k);
                        act(now.withClaims(fewer));
                        want = fewer.size();
                    }
                    due("withdraw(" + k + ")", real.withdraw(k), want);
                    break;
                }
                case 3:
                    become(i);
                    break;
                case 4:
                    law();
                    break;
                case 5: {
                    long want = -1;
                    if (goesOn(now == null ? 1 : earlier.isEmpty() ? 5 : 0)) {
                        now = earlier.pop();
                        want = earlier.size();
                    }
                    due("undo()", real.undo(), want);
                    break;
                }
                case 6: {
                    int m = some(0, 1);
                    boolean want = goesOn(now == null || m < 0 || m > 1 ? 1 : 0);
                    if (want) {
                        images[m] = now;
                    }
                    due("image(" + m + ")", real.image(m) ? 1 : 0, want ? 1 : 0);
                    break;
                }
                case 7: {
                    int m = some(0, 1);
                    boolean want = goesOn(now == null || m < 0 || m > 1 || images[m] == null ? 1 : 0);
                    if (want) {
                        now = images[m];
                        earlier.clear();
                    }
                    due("again(" + m + ")", real.again(m) ? 1 : 0, want ? 1 : 0);
                    break;
                }
                default: {
                    int k = some(0, 6);
                    String name = ship(i) ? now.ships().get(i).name() : "";
                    long want = k >= 0 && k < name.length() ? name.charAt(k) - 'a' : -77;
                    long got;
                    try {
                        got = real.letter(i, k);
                    } catch (NoSuchElementException e) {
                        got = -77;
                    }
                    due("letter(" + i + ", " + k + ")", got, want);
                }
            }
        }

        void become(int i) {
            int what = some(0, 5);
            int[] low = {1, 0, 0, 0, 0, 0};
            int[] high = {99999, 10, 9999999, 9999999, 1, 1};
            int at = what < 0 || what > 5 ? 0 : what;
            int v = random.nextBoolean() ? some(low[at], high[at]) : some(0, 2000);
            int number = !ship(i) || what < 0 || what > 5 || what == 1 ? 1 : v < low[at] || v > high[at] ? 2 : 0;
            long want = -1;
            if (goesOn(number)) {
                want = ofShip(i, what);
                Ship s = now.ships().get(i);
                act(now.withShip(i, new Ship(s.name(), what == 0 ? v : s.tons(), s.fault(), what == 2 ? v : s.hull(),
                        what == 3 ? v : s.value(), what == 4 ? v == 1 : s.clause(), what == 5 ? v == 1 : s.barred())));
            }
            due("become(" + i + ", " + what + ", " + v + ")", real.become(i, what, v), want);
        }

        void law() {
            int what = some(2, 9);
            int[] low = {0, 0, 0, 0, 0, 0, 0, 1, 0, 0};
            int[] high = {0, 0, 1, 1, 1, 99999, 99999, 99999, 999, 999};
            int at = what < 2 || what > 9 ? 0 : what;
            int v = random.nextBoolean() || high[at] == 1 ? some(low[at], high[at]) : some(0, 300);
            int number = now == null || what < 2 || what > 9 ? 1 : v < low[at] || v > high[at] ? 2
                    : what == 8 && v > now.last() || what == 9 && v < now.due() ? 5 : 0;
            long want = -1;
            if (goesOn(number)) {
                want = lawOf(what);
                Case c = now;
                if (what < 5) {
                    int bit = 1 << (what - 2);
                    c = now.withLaws(v == 1 ? now.bits() | bit : now.bits() & ~bit);
                } else {
                    c = now.withNumbers(what == 5 ? v : now.rate(), what == 6 ? v : now.lives(),
                            what == 7 ? v : now.least(), what == 8 ? v : now.due(), what == 9 ? v : now.last());
                }
                act(c);
            }
            due("law(" + what + ", " + v + ")", real.law(what, v), want);
        }
    }

    // ---------------------------------------------------------------- what is asked

    private static int money(Random r) {
        return r.nextInt(3) == 0 ? r.nextInt(10000000) : r.nextInt(3) == 0 ? r.nextInt(30) : r.nextInt(3000);
    }

    private static String someText(Random r) {
        int ships = 2 + r.nextInt(3);
        String[] names = {"a", "bc", "xyz", "ships", "tonsx", "person", "dayday", "zz", "due" + "s"};
        int from = r.nextInt(names.length);
        List<String> lines = new ArrayList<>();
        int left = 10;
        List<String> used = new ArrayList<>();
        for (int i = 0; i < ships; i++) {
            int f = i == ships - 1 ? left : r.nextInt(left + 1);
            left -= f;
            String name = names[(from + i) % names.length];
            used.add(name);
            lines.add("ship " + name + " tons " + (1 + r.nextInt(r.nextBoolean() ? 10 : 99999)) + " fault " + f
                    + " hull " + money(r) + " value " + money(r) + (r.nextInt(2) == 0 ? " clause" : "")
                    + (r.nextInt(5) == 0 ? " barred" : ""));
        }
        int claims = r.nextInt(r.nextInt(4) == 0 ? 14 : 8);
        for (int k = 0; k < claims; k++) {
            String[] kinds = {"goods " + used.get(r.nextInt(ships)), "persons", "others"};
            lines.add(kinds[r.nextInt(3)] + " " + (1 + money(r)) % 10000000 + " day " + r.nextInt(1000));
        }
        String[] laws = {"equal", "whole", "cross", "rate " + r.nextInt(r.nextBoolean() ? 5 : 100000),
            "lives " + r.nextInt(r.nextBoolean() ? 5 : 100000), "least " + (1 + r.nextInt(r.nextBoolean() ? 5 : 99999)),
            "due " + r.nextInt(1000), "last " + (300 + r.nextInt(700))};
        for (String l : laws) {
            if (r.nextInt(2) == 0) {
                lines.add(r.nextInt(lines.size() + 1 - ships) + ships, l);
            }
        }
        return String.join(r.nextBoolean() ? ";" : " ; ", lines);
    }

    private static String spoilt(Random r, String text) {
        String[] words = {"ship", "tons", "fault", "5", "0", "10000000", "9999999", "clause", "barred", "goods", "a",
            "day", "equal", ";", "others", "persons", "rate", "12345678", "abcdefgh", "abcdefg", "1000", "100000", "!",
            "A", "\u00e9", "\u0000", "cross", "whole", "ship q tons 5 fault 0 hull 0 value 0;", "others 5 day 5;",
            "equal;", "rate 5;", "due 900; last 1;", "\t", "007", "99a", "a99"};
        int at = r.nextInt(text.length() + 1);
        switch (r.nextInt(6)) {
            case 5: {
                String[] numbers = {"0", "1", "10", "11", "999", "1000", "99999", "100000", "9999999", "10000000"};
                List<String> parts = new ArrayList<>(List.of(text.split(" ")));
                int part = r.nextInt(parts.size());
                for (int tries = 0; tries < 20 && !parts.get(part).matches("[0-9]+"); tries++) {
                    part = r.nextInt(parts.size());
                }
                parts.set(part, numbers[r.nextInt(numbers.length)]);
                return String.join(" ", parts);
            }
            case 0:
                return text.substring(0, at) + words[r.nextInt(words.length)] + text.substring(at);
            case 1:
                return text.substring(0, at) + " " + words[r.nextInt(words.length)] + " " + text.substring(at);
            case 2:
                return text.substring(0, at) + text.substring(Math.min(text.length(), at + 1 + r.nextInt(3)));
            case 3: {
                List<String> parts = new ArrayList<>(List.of(text.split(" ")));
                parts.set(r.nextInt(parts.size()), words[r.nextInt(words.length)]);
                return String.join(" ", parts);
            }
            default: {
                List<String> lines = new ArrayList<>(List.of(text.split(";")));
                String moved = lines.get(r.nextInt(lines.size()));
                lines.add(r.nextInt(lines.size() + 1), moved);
                return String.join(";", lines);
            }
        }
    }

    private static void someRun(long seed) {
        Pair p = new Pair(seed);
        Random r = p.random;
        p.state();
        for (int step = 0; step < 60 && wrong == 0; step++) {
            boolean early = p.now == null && r.nextInt(4) != 0;
            if (early || r.nextInt(30) == 0) {
                String text = someText(r);
                for (int s = r.nextInt(3); s > 0 && r.nextBoolean(); s--) {
                    text = spoilt(r, text);
                }
                p.feedText(text);
                p.text(r.nextInt(30) == 0 ? p.some(0, p.tape.length) : Math.min(text.length(), p.tape.length));
            } else if (r.nextInt(3) == 0) {
                p.change(r.nextInt(9));
            } else {
                p.ask(r.nextInt(23));
            }
            p.state();
        }
    }

    public static void main(String[] args) {
        int runs = args.length > 0 ? Integer.parseInt(args[0]) : 4000;
        for (int run = 0; run < runs && wrong == 0; run++) {
            someRun(run);
        }
        for (int t = 0; t < 6; t++) {
            if (TROUBLES[t] == 0 || FAULTS[t] == 0) {
                wrong++;
                System.out.println("the runs never came to trouble or fault " + t);
            }
        }
        if (bitten == 0 || given == 0) {
            wrong++;
            System.out.println("no fund was ever too small, or nothing was ever given back");
        }
        System.out.println(calls + " answers, faults of texts " + java.util.Arrays.toString(FAULTS) + ", troubles "
                + java.util.Arrays.toString(TROUBLES) + ", bitten " + bitten + ", given back " + given);
        if (wrong != 0) {
            System.exit(1);
        }
    }
}
