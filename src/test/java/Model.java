import java.math.BigInteger;
import java.util.ArrayDeque;
import java.util.ArrayList;
import java.util.HashMap;
import java.util.List;
import java.util.Map;
import java.util.regex.Matcher;
import java.util.regex.Pattern;

/** The document's words once more, by the slowest and plainest ways: what the class is held against. */
final class Model {
    private static final int NONE = -6, UNKNOWN = -1, OUTSIDE = -2, STATE = -3, FULL = -4, NO = -5;
    private static final long LOST = -1000000000000000000L;
    private static final Pattern PART = Pattern.compile("([A-F?])>([A-F])([1-9][0-9]?)|([A-F])!|\\.");

    /** A debt never changes: states share them. */
    record Debt(int lender, int pence, int day) {
    }

    static final class World {
        int[] money = {20, 20, 20, 20, 20, 20};
        List<List<Debt>> piles = new ArrayList<>();
        List<int[]> sights = new ArrayList<>();
        int days, law, rate;

        World() {
            for (int man = 0; man < 6; man++) {
                piles.add(new ArrayList<>());
            }
        }

        World copy() {
            World w = new World();
            w.money = money.clone();
            for (int man = 0; man < 6; man++) {
                w.piles.set(man, new ArrayList<>(piles.get(man)));
            }
            w.sights = new ArrayList<>(sights);
            w.days = days;
            w.law = law;
            w.rate = rate;
            return w;
        }

        int due(int man) {
            List<Debt> pile = piles.get(man);
            if (pile.isEmpty()) {
                return NONE;
            }
            if (law == 0) {
                return pile.size() - 1;
            }
            if (law == 1) {
                return 0;
            }
            int most = pile.stream().mapToInt(Debt::pence).max().getAsInt();
            int last = NONE;
            for (int k = 0; k < pile.size(); k++) {
                if (pile.get(k).pence() == most) {
                    last = k;
                }
            }
            return last;
        }

        int whyNotPay(int man) {
            int k = due(man);
            if (k == NONE) {
                return 3;
            }
            return money[man] < piles.get(man).get(k).pence() ? 4 : 0;
        }

        void pay(int man) {
            Debt d = piles.get(man).remove(due(man));
            money[man] -= d.pence();
            money[d.lender()] += d.pence();
        }

        void day() {
            days++;
            for (List<Debt> pile : piles) {
                pile.replaceAll(d -> new Debt(d.lender(), Math.min(9999, d.pence() + rate), d.day()));
            }
        }

        String key() {
            return java.util.Arrays.toString(money) + piles;
        }

        boolean free() {
            return piles.stream().allMatch(List::isEmpty);
        }
    }

    World w = new World();
    World[] images = new World[2];
    String pad = "";

    private static boolean man(int man) {
        return 0 <= man && man <= 5;
    }

    private boolean has(int man, int k) {
        return man(man) && k >= 0 && k < w.piles.get(man).size();
    }

    int money(int man, int v) {
        if (!man(man)) {
            return UNKNOWN;
        }
        if (v < 0 || v > 999) {
            return OUTSIDE;
        }
        int was = w.money[man];
        w.money[man] = v;
        return was;
    }

    int set(int which, int v) {
        if (v < 0 || which < 0 || which > 1 || v > (which == 0 ? 2 : 9)) {
            return OUTSIDE;
        }
        int was = which == 0 ? w.law : w.rate;
        if (which == 0) {
            w.law = v;
        } else {
            w.rate = v;
        }
        return was;
    }

    int say(int sign) {
        if (sign < 33 || sign > 126) {
            return OUTSIDE;
        }
        if (pad.length() == 60) {
            return FULL;
        }
        pad += (char) sign;
        return pad.length();
    }

    int wipe() {
        int was = pad.length();
        pad = "";
        return was;
    }

    private static boolean whole(String text) {
        int at = 0;
        int asks = 0;
        Matcher m = PART.matcher(text);
        while (at < text.length()) {
            m.region(at, text.length());
            if (!m.lookingAt()) {
                return false;
            }
            if (m.group(1) != null && m.group(1).equals(m.group(2))) {
                return false;
            }
            asks += m.group().startsWith("?") ? 1 : 0;
            at = m.end();
        }
        return asks <= 3;
    }

    /** Whether signs can be the beginning of some text: by trying endings of a part. */
    private static boolean beginning(String signs) {
        for (String end : new String[] {"", "!", ">A1", ">B1", "A1", "B1", "1"}) {
            if (whole(signs + end)) {
                return true;
            }
        }
        return false;
    }

    int fault() {
        for (int n = 1; n <= pad.length(); n++) {
            if (!beginning(pad.substring(0, n))) {
                return n - 1;
            }
        }
        return whole(pad) ? NONE : pad.length();
    }

    /** Does a text without ?: {part, why} of the first part that can not be, or {NONE, NONE, parts}. */
    private static int[] run(World world, String text) {
        Matcher m = PART.matcher(text);
        int part = 0;
        for (; m.find(); part++) {
            int why = 0;
            if (m.group(1) != null) {
                int from = m.group(1).charAt(0) - 'A';
                int to = m.group(2).charAt(0) - 'A';
                int pence = Integer.parseInt(m.group(3));
                why = world.money[from] < pence ? 1 : world.piles.get(to).size() == 5 ? 2 : 0;
                if (why == 0) {
                    world.money[from] -= pence;
                    world.money[to] += pence;
                    world.piles.get(to).add(new Debt(from, pence, world.days));
                }
            } else if (m.group(4) != null) {
                int man = m.group(4).charAt(0) - 'A';
                why = world.whyNotPay(man);
                if (why == 0) {
                    world.pay(man);
                }
            } else {
                world.day();
            }
            if (why != 0) {
                return new int[] {part, why, part};
            }
        }
        return new int[] {NONE, NONE, part};
    }

    int judge(int what) {
        if (what < 0 || what > 1) {
            return OUTSIDE;
        }
        if (fault() != NONE) {
            return NO;
        }
        return pad.contains("?") ? STATE : run(w.copy(), pad)[what];
    }

    int done() {
        if (fault() != NONE) {
            return NO;
        }
        if (pad.contains("?")) {
            return STATE;
        }
        World next = w.copy();
        int[] end = run(next, pad);
        if (end[0] != NONE) {
            return NO;
        }
        w = next;
        pad = "";
        return end[2];
    }

    int debt(int man, int k, int what) {
        if (!has(man, k)) {
            return UNKNOWN;
        }
        Debt d = w.piles.get(man).get(k);
        return what == 0 ? d.lender() : what == 1 ? d.pence() : what == 2 ? d.day() : OUTSIDE;
    }

    int due(int man) {
        return man(man) ? w.due(man) : UNKNOWN;
    }

    int owes(int man, int other) {
        if (!man(man) || !man(other)) {
            return UNKNOWN;
        }
        return w.piles.get(man).stream().filter(d -> d.lender() == other).mapToInt(Debt::pence).sum();
    }

    int seen(int man, int pence) {
        if (!man(man)) {
            return UNKNOWN;
        }
        if (pence < 0 || pence > 9999) {
            return OUTSIDE;
        }
        if (w.sights.size() == 6) {
            return FULL;
        }
        w.sights.add(new int[] {man, pence});
        return w.sights.size();
    }

    int forget() {
        int was = w.sights.size();
        w.sights.clear();
        return was;
    }

    /** All texts without ? that a text can be, by letters. */
    private static void write(String text, String men, List<String[]> all) {
        int at = text.indexOf('?');
        if (at < 0) {
            all.add(new String[] {text, men});
            return;
        }
        for (char c = 'A'; c <= 'F'; c++) {
            if (text.charAt(at + 2) != c) {
                write(text.substring(0, at) + c + text.substring(at + 1), men + c, all);
            }
        }
    }

    int filled(int i) {
        if (fault() != NONE) {
            return NO;
        }
        List<String[]> all = new ArrayList<>();
        write(pad, "", all);
        List<String> ways = new ArrayList<>();
        for (String[] way : all) {
            World end = w.copy();
            if (run(end, way[0])[0] == NONE && w.sights.stream().allMatch(s -> end.money[s[0]] == s[1])) {
                ways.add(way[1]);
            }
        }
        if (i == -1) {
            return ways.size();
        }
        return ways.isEmpty() || i < 0 || i >= ways.get(0).length() ? NONE : ways.get(0).charAt(i) - 'A';
    }

    /** What soon answers where too much can be paid to look at all of it. */
    static final int TOO_MANY = -99;
    private static final int STATES_MOST = 6000;

    int soon(int man, int k) {
        if (!has(man, k)) {
            return UNKNOWN;
        }
        // Equal debts of one pile are told apart by making the told one's day another.
        World start = w.copy();
        Debt d = start.piles.get(man).get(k);
        Debt marked = new Debt(d.lender(), d.pence(), -1);
        start.piles.get(man).set(k, marked);
        Map<String, Integer> far = new HashMap<>();
        ArrayDeque<World> queue = new ArrayDeque<>();
        queue.add(start);
        far.put(start.key(), 0);
        while (!queue.isEmpty()) {
            World at = queue.remove();
            int steps = far.get(at.key());
            if (!at.piles.get(man).contains(marked)) {
                return steps;
            }
            if (far.size() > STATES_MOST) {
                return TOO_MANY;
            }
            for (int payer = 0; payer < 6; payer++) {
                if (at.whyNotPay(payer) == 0) {
                    World next = at.copy();
                    next.pay(payer);
                    if (far.putIfAbsent(next.key(), steps + 1) == null) {
                        queue.add(next);
                    }
                }
            }
        }
        return NONE;
    }

    /** Pays as long as anybody can, the last man first. */
    private static World settled(World start) {
        World at = start.copy();
        for (int man = 5; man >= 0; man--) {
            if (at.whyNotPay(man) == 0) {
                at.pay(man);
                man = 6;
            }
        }
        return at;
    }

    int barred() {
        World end = settled(w);
        int bits = 0;
        for (int man = 0; man < 6; man++) {
            bits += end.piles.get(man).isEmpty() ? 0 : 1 << man;
        }
        return bits;
    }

    int help(int man) {
        if (!man(man)) {
            return UNKNOWN;
        }
        int all = w.piles.get(man).stream().mapToInt(Debt::pence).sum();
        for (int pence = 0; pence <= all; pence++) {
            World helped = w.copy();
            helped.money[man] += pence;
            if (settled(helped).free()) {
                return pence;
            }
        }
        return NONE;
    }

    int whom() {
        int best = NONE;
        for (int man = 5; man >= 0; man--) {
            int pence = help(man);
            if (pence != NONE && (best == NONE || pence <= help(best))) {
                best = man;
            }
        }
        return best;
    }

    private List<Integer> ringMen(int man) {
        List<Integer> men = new ArrayList<>();
        int at = man;
        do {
            if (men.contains(at) || w.due(at) == NONE) {
                return null;
            }
            men.add(at);
            at = w.piles.get(at).get(w.due(at)).lender();
        } while (at != man);
        return men;
    }

    int ring(int man) {
        if (!man(man)) {
            return UNKNOWN;
        }
        List<Integer> men = ringMen(man);
        return men == null ? NONE : men.stream().mapToInt(m -> 1 << m).sum();
    }

    int setOff(int man) {
        if (!man(man)) {
            return UNKNOWN;
        }
        List<Integer> men = ringMen(man);
        if (men == null) {
            return STATE;
        }
        int least = men.stream().mapToInt(m -> w.piles.get(m).get(w.due(m)).pence()).min().getAsInt();
        for (int m : men) {
            int k = w.due(m);
            Debt d = w.piles.get(m).remove(k);
            if (d.pence() > least) {
                w.piles.get(m).add(k, new Debt(d.lender(), d.pence() - least, d.day()));
            }
        }
        return least;
    }

    int give(int man, int k, int other) {
        if (!has(man, k) || !man(other) || man == other) {
            return UNKNOWN;
        }
        Debt d = w.piles.get(man).get(k);
        w.piles.get(man).set(k, new Debt(other, d.pence(), d.day()));
        return d.lender();
    }

    int pawn(int man, int k) {
        if (!has(man, k)) {
            return UNKNOWN;
        }
        World rich = w.copy();
        Debt d = rich.piles.get(man).get(k);
        Debt marked = new Debt(d.lender(), d.pence(), -1);
        rich.piles.get(man).set(k, marked);
        rich.money[man] = 1000000;
        while (rich.piles.get(man).contains(marked)) {
            rich.pay(man);
        }
        return 1000000 - rich.money[man];
    }

    long odds(int man, int e, int n, int t, int part) {
        if (!man(man)) {
            return LOST + UNKNOWN;
        }
        if (e < 1 || e > 99 || n < 0 || n > 12 || t < 0 || t > 10 || part < 0 || part > 1) {
            return LOST + OUTSIDE;
        }
        if (w.due(man) == NONE) {
            return LOST + STATE;
        }
        World then = w.copy();
        for (int day = 0; day < n; day++) {
            then.day();
        }
        int asked = then.piles.get(man).get(then.due(man)).pence();
        BigInteger upper = BigInteger.ZERO;
        for (int way = 0; way < 1 << n; way++) {
            int good = Integer.bitCount(way);
            if (then.money[man] + good * e >= asked) {
                upper = upper.add(BigInteger.valueOf(t).pow(good).multiply(BigInteger.valueOf(10 - t).pow(n - good)));
            }
        }
        BigInteger lower = BigInteger.TEN.pow(n);
        return (part == 0 ? upper : lower).divide(upper.gcd(lower)).longValueExact();
    }

    int year(int seed, int n, int what) {
        if (seed < 0 || seed > 9999 || n < 1 || n > 99 || what < 0 || what > 2) {
            return OUTSIDE;
        }
        World at = w.copy();
        long x = seed;
        int paid = 0;
        for (int day = 0; day < n; day++) {
            x = Math.floorMod(75 * x + 74, 65537L);
            int man = (int) (x % 6);
            at.money[man] += 1 + (int) (x / 6 % 9);
            while (at.whyNotPay(man) == 0) {
                at.pay(man);
                paid++;
            }
            at.day();
        }
        if (what == 0) {
            return paid;
        }
        return at.piles.stream().flatMap(List::stream).mapToInt(d -> what == 1 ? 1 : d.pence()).sum();
    }

    int image(int n) {
        if (n < 0 || n > 1) {
            return OUTSIDE;
        }
        images[n] = w.copy();
        return 1;
    }

    int restore(int n) {
        if (n < 0 || n > 1) {
            return OUTSIDE;
        }
        if (images[n] == null) {
            return STATE;
        }
        w = images[n].copy();
        return 1;
    }

    int told(int what) {
        if (what >= 10 && what <= 15) {
            return w.money[what - 10];
        }
        if (what >= 20 && what <= 25) {
            return w.piles.get(what - 20).size();
        }
        int[] all = {pad.length(), w.days, w.law, w.rate, w.sights.size()};
        return what >= 0 && what <= 4 ? all[what] : OUTSIDE;
    }
}
