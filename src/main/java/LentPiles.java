import java.util.Arrays;

/**
 * A valley of six men in which debts lie in piles and are repaid by a law: last made first,
 * oldest first, or dearest first.
 */
public final class LentPiles {
    public static final int NONE = -6, UNKNOWN = -1, OUTSIDE = -2, STATE = -3, FULL = -4, NO = -5;
    public static final long LOST = -1000000000000000000L;

    private static final int MEN = 6;
    private static final int PILE_MOST = 5;
    private static final int DEBTS_MOST = MEN * PILE_MOST;
    private static final int SIGNS_MOST = 60;
    private static final int ASKS_MOST = 3;
    private static final int SIGHTS_MOST = 6;
    private static final int FIRST_MONEY = 20;
    private static final int MONEY_MOST = 999;
    private static final int SIGHT_MOST = 9999;
    private static final int DEBT_MOST = 9999;
    private static final int RATE_MOST = 9;

    private static final int LAW_LAST = 0;
    private static final int LAW_OLDEST = 1;
    private static final int LAW_DEAREST = 2;

    private static final int WELL = 0;
    private static final int LENDER_POOR = 1;
    private static final int PILE_FULL = 2;
    private static final int NOTHING_DUE = 3;
    private static final int PAYER_POOR = 4;

    private static final int EARNING_MOST = 99;
    private static final int ODDS_DAYS_MOST = 12;
    private static final int TENTHS = 10;
    private static final int SEED_MOST = 9999;
    private static final int YEAR_DAYS_MOST = 99;

    private final Valley now;
    /** Where things are only tried out. */
    private final Valley trial;
    private final Valley firstImage;
    private final Valley secondImage;
    private final Pad pad;
    private final Payings payings;
    /** Of each number of earnings: its share of all ways that the days can go. */
    private final long[] shares;
    private int imagesKept;

    public LentPiles() {
        now = new Valley();
        trial = new Valley();
        firstImage = new Valley();
        secondImage = new Valley();
        pad = new Pad();
        payings = new Payings();
        shares = new long[ODDS_DAYS_MOST + 1];
        imagesKept = 0;
    }

    // ---- 1 men, texts

    public int money(int man, int v) {
        if (!isMan(man)) {
            return UNKNOWN;
        }
        if (!isWithin(v, 0, MONEY_MOST)) {
            return OUTSIDE;
        }
        int before = now.purseOf(man);
        now.fillPurse(man, v);
        return before;
    }

    public int set(int which, int v) {
        if (which == 0 && isWithin(v, LAW_LAST, LAW_DEAREST)) {
            int before = now.law;
            now.law = v;
            return before;
        }
        if (which == 1 && isWithin(v, 0, RATE_MOST)) {
            int before = now.rate;
            now.rate = v;
            return before;
        }
        return OUTSIDE;
    }

    public int say(int sign) {
        if (!isWithin(sign, 33, 126)) {
            return OUTSIDE;
        }
        return pad.write((char) sign) ? pad.length : FULL;
    }

    public int wipe() {
        int before = pad.length;
        pad.clear();
        return before;
    }

    public int fault() {
        return pad.read();
    }

    // ---- 2 days

    public int judge(int what) {
        if (!isWithin(what, 0, 1)) {
            return OUTSIDE;
        }
        if (pad.read() != NONE) {
            return NO;
        }
        if (pad.asks > 0) {
            return STATE;
        }
        int part = pad.perform(now, trial);
        if (part == NONE) {
            return NONE;
        }
        return what == 0 ? part : pad.why;
    }

    public int done() {
        if (pad.read() != NONE) {
            return NO;
        }
        if (pad.asks > 0) {
            return STATE;
        }
        if (pad.perform(now, trial) != NONE) {
            return NO;
        }
        now.copyFrom(trial);
        int parts = pad.parts;
        pad.clear();
        return parts;
    }

    public int debt(int man, int debt, int what) {
        if (!now.hasDebt(man, debt)) {
            return UNKNOWN;
        }
        switch (what) {
            case 0:
                return now.lenderOf(man, debt);
            case 1:
                return now.penceOf(man, debt);
            case 2:
                return now.dayOf(man, debt);
            default:
                return OUTSIDE;
        }
    }

    public int due(int man) {
        return isMan(man) ? now.dueOf(man) : UNKNOWN;
    }

    public int owes(int man, int other) {
        return isMan(man) && isMan(other) ? now.owedTo(man, other) : UNKNOWN;
    }

    public int seen(int man, int pence) {
        if (!isMan(man)) {
            return UNKNOWN;
        }
        if (!isWithin(pence, 0, SIGHT_MOST)) {
            return OUTSIDE;
        }
        return now.addSight(man, pence) ? now.sights : FULL;
    }

    public int forget() {
        int before = now.sights;
        now.sights = 0;
        return before;
    }

    public int filled(int i) {
        if (pad.read() != NONE) {
            return NO;
        }
        int guesses = pad.guesses();
        int first = NONE;
        int ways = 0;
        for (int way = 0; way < guesses; way++) {
            pad.writeMen(way);
            if (!pad.lendsToHimself() && pad.perform(now, trial) == NONE && trial.sightsHold()) {
                first = first == NONE ? way : first;
                ways++;
            }
        }
        if (i == -1) {
            return ways;
        }
        if (first == NONE) {
            return NONE;
        }
        pad.writeMen(first);
        return pad.manFor(i);
    }

    // ---- 3 payings

    public int soon(int man, int debt) {
        if (!now.hasDebt(man, debt)) {
            return UNKNOWN;
        }
        payings.load(now);
        return payings.fewest(man, now.turnOf(man, debt));
    }

    public int barred() {
        payings.load(now);
        payings.payAllThatCan();
        return payings.stillOwing();
    }

    public int help(int man) {
        return isMan(man) ? leastHelp(man) : UNKNOWN;
    }

    public int whom() {
        int best = NONE;
        int least = NONE;
        for (int man = 0; man < MEN; man++) {
            int pence = leastHelp(man);
            if (pence != NONE && (best == NONE || pence < least)) {
                best = man;
                least = pence;
            }
        }
        return best;
    }

    public int ring(int man) {
        return isMan(man) ? now.ringOf(man) : UNKNOWN;
    }

    public int setOff(int man) {
        if (!isMan(man)) {
            return UNKNOWN;
        }
        int men = now.ringOf(man);
        if (men == NONE) {
            return STATE;
        }
        return now.setOffDues(men);
    }

    public int give(int man, int debt, int other) {
        if (!now.hasDebt(man, debt) || !isMan(other) || other == man) {
            return UNKNOWN;
        }
        int before = now.lenderOf(man, debt);
        now.changeLender(man, debt, other);
        return before;
    }

    public int pawn(int man, int debt) {
        return now.hasDebt(man, debt) ? now.penceTill(man, debt) : UNKNOWN;
    }

    // ---- 4 odds, years

    public long odds(int man, int e, int n, int t, int part) {
        if (!isMan(man)) {
            return LOST + UNKNOWN;
        }
        if (!isWithin(e, 1, EARNING_MOST) || !isWithin(n, 0, ODDS_DAYS_MOST)
                || !isWithin(t, 0, TENTHS) || !isWithin(part, 0, 1)) {
            return LOST + OUTSIDE;
        }
        int due = now.dueOf(man);
        if (due == NONE) {
            return LOST + STATE;
        }
        // All debts grow alike, so what is due now is as dear as what is due then.
        int lack = grown(now.penceOf(man, due), n * now.rate) - now.purseOf(man);
        return lowestTerms(luckyShares(e, n, t, lack), allShares(n), part);
    }

    public int year(int seed, int n, int what) {
        if (!isWithin(seed, 0, SEED_MOST) || !isWithin(n, 1, YEAR_DAYS_MOST)
                || !isWithin(what, 0, 2)) {
            return OUTSIDE;
        }
        trial.copyFrom(now);
        int paid = liveYear(seed, n);
        if (what == 0) {
            return paid;
        }
        return what == 1 ? trial.allDebts() : trial.allPence();
    }

    public int image(int n) {
        if (!isWithin(n, 0, 1)) {
            return OUTSIDE;
        }
        imageOf(n).copyFrom(now);
        imagesKept |= 1 << n;
        return 1;
    }

    public int restore(int n) {
        if (!isWithin(n, 0, 1)) {
            return OUTSIDE;
        }
        if ((imagesKept & 1 << n) == 0) {
            return STATE;
        }
        now.copyFrom(imageOf(n));
        return 1;
    }

    public int told(int what) {
        if (isMan(what - 10)) {
            return now.purseOf(what - 10);
        }
        if (isMan(what - 20)) {
            return now.debtsOf(what - 20);
        }
        switch (what) {
            case 0:
                return pad.length;
            case 1:
                return now.days;
            case 2:
                return now.law;
            case 3:
                return now.rate;
            case 4:
                return now.sights;
            default:
                return OUTSIDE;
        }
    }

    // ---- helpers of the calls

    private static boolean isMan(int man) {
        return man >= 0 && man < MEN;
    }

    private static boolean isWithin(int v, int least, int most) {
        return v >= least && v <= most;
    }

    private static int grown(int pence, int by) {
        return Math.min(pence + by, DEBT_MOST);
    }

    private Valley imageOf(int n) {
        return n == 0 ? firstImage : secondImage;
    }

    private int leastHelp(int man) {
        payings.load(now);
        return payings.leastHelp(man);
    }

    /** Of all ways that the days can go, those in which the earnings reach the lack. */
    private long luckyShares(int e, int n, int t, int lack) {
        Arrays.fill(shares, 0L);
        shares[0] = 1L;
        for (int day = 1; day <= n && day <= ODDS_DAYS_MOST; day++) {
            for (int k = day; k > 0; k--) {
                shares[k] = shares[k] * (TENTHS - t) + shares[k - 1] * t;
            }
            shares[0] = shares[0] * (TENTHS - t);
        }
        long lucky = 0L;
        for (int k = 0; k <= ODDS_DAYS_MOST; k++) {
            lucky += e * k >= lack ? shares[k] : 0L;
        }
        return lucky;
    }

    private static long allShares(int n) {
        long all = 1L;
        for (int day = 0; day < n; day++) {
            all *= TENTHS;
        }
        return all;
    }

    private static long lowestTerms(long upper, long lower, int part) {
        long divisor = commonDivisor(upper, lower);
        if (divisor <= 0L) {
            return part == 0 ? upper : lower;
        }
        return part == 0 ? upper / divisor : lower / divisor;
    }

    private static long commonDivisor(long a, long b) {
        long big = a;
        long small = b;
        // Each second step halves the number at least, so 128 steps are enough for any long.
        for (int step = 0; step < 128 && small != 0L; step++) {
            long left = big % small;
            big = small;
            small = left;
        }
        return big;
    }

    /** Lets n days go by in the trial valley: how many debts were paid. */
    private int liveYear(int seed, int n) {
        int x = seed;
        int paid = 0;
        for (int day = 0; day < n; day++) {
            x = (75 * x + 74) % 65537;
            int man = x % MEN;
            trial.fillPurse(man, trial.purseOf(man) + 1 + x / 6 % 9);
            for (int k = 0; k < PILE_MOST && trial.repay(man) == WELL; k++) {
                paid++;
            }
            trial.passDay();
        }
        return paid;
    }

    /** One state of the valley: all but the pad. */
    private static final class Valley {
        private final int[] purse;
        private final int[] height;
        private final int[] lender;
        private final int[] pence;
        private final int[] made;
        private final int[] sightMan;
        private final int[] sightPence;
        private int sights;
        private int days;
        private int law;
        private int rate;

        Valley() {
            purse = new int[MEN];
            Arrays.fill(purse, FIRST_MONEY);
            height = new int[MEN];
            lender = new int[DEBTS_MOST];
            pence = new int[DEBTS_MOST];
            made = new int[DEBTS_MOST];
            sightMan = new int[SIGHTS_MOST];
            sightPence = new int[SIGHTS_MOST];
            sights = 0;
            days = 0;
            law = LAW_LAST;
            rate = 0;
        }

        void copyFrom(Valley other) {
            System.arraycopy(other.purse, 0, purse, 0, MEN);
            System.arraycopy(other.height, 0, height, 0, MEN);
            System.arraycopy(other.lender, 0, lender, 0, DEBTS_MOST);
            System.arraycopy(other.pence, 0, pence, 0, DEBTS_MOST);
            System.arraycopy(other.made, 0, made, 0, DEBTS_MOST);
            System.arraycopy(other.sightMan, 0, sightMan, 0, SIGHTS_MOST);
            System.arraycopy(other.sightPence, 0, sightPence, 0, SIGHTS_MOST);
            sights = other.sights;
            days = other.days;
            law = other.law;
            rate = other.rate;
        }

        int purseOf(int man) {
            return isMan(man) ? purse[man] : 0;
        }

        void fillPurse(int man, int v) {
            if (isMan(man)) {
                purse[man] = v;
            }
        }

        int debtsOf(int man) {
            return isMan(man) ? height[man] : 0;
        }

        boolean hasDebt(int man, int k) {
            return man >= 0 && man < MEN && k >= 0 && k < PILE_MOST && k < height[man];
        }

        int lenderOf(int man, int k) {
            return hasDebt(man, k) ? lender[man * PILE_MOST + k] : NONE;
        }

        int penceOf(int man, int k) {
            return hasDebt(man, k) ? pence[man * PILE_MOST + k] : 0;
        }

        int dayOf(int man, int k) {
            return hasDebt(man, k) ? made[man * PILE_MOST + k] : 0;
        }

        void changeLender(int man, int k, int other) {
            if (hasDebt(man, k)) {
                lender[man * PILE_MOST + k] = other;
            }
        }

        /** Whether the law asks for debt j of a pile not later than for debt k. */
        private boolean notLater(int man, int j, int k) {
            if (!hasDebt(man, j) || !hasDebt(man, k)) {
                return false;
            }
            if (law == LAW_OLDEST) {
                return j <= k;
            }
            int first = man * PILE_MOST;
            int more = law == LAW_DEAREST ? pence[first + j] - pence[first + k] : 0;
            return more > 0 || more == 0 && j >= k;
        }

        int dueOf(int man) {
            if (!hasDebt(man, 0)) {
                return NONE;
            }
            int best = 0;
            for (int k = 1; k < debtsOf(man); k++) {
                best = notLater(man, k, best) ? k : best;
            }
            return best;
        }

        /** The how manieth of his payings pays a debt, from 1 on. */
        int turnOf(int man, int k) {
            int turn = 0;
            for (int j = 0; j < debtsOf(man); j++) {
                turn += notLater(man, j, k) ? 1 : 0;
            }
            return turn;
        }

        int penceTill(int man, int k) {
            int sum = 0;
            for (int j = 0; j < debtsOf(man); j++) {
                sum += notLater(man, j, k) ? penceOf(man, j) : 0;
            }
            return sum;
        }

        int owedTo(int man, int other) {
            int sum = 0;
            for (int k = 0; k < debtsOf(man); k++) {
                sum += lenderOf(man, k) == other ? penceOf(man, k) : 0;
            }
            return sum;
        }

        int allDebts() {
            int sum = 0;
            for (int man = 0; man < MEN; man++) {
                sum += height[man];
            }
            return sum;
        }

        int allPence() {
            int sum = 0;
            for (int man = 0; man < MEN; man++) {
                for (int k = 0; k < debtsOf(man); k++) {
                    sum += penceOf(man, k);
                }
            }
            return sum;
        }

        /** A lending, if it can be: WELL, or why it can not. */
        int lend(int from, int to, int v) {
            if (purseOf(from) < v) {
                return LENDER_POOR;
            }
            int k = debtsOf(to);
            if (!isMan(to) || k < 0 || k >= PILE_MOST) {
                return PILE_FULL;
            }
            int row = to * PILE_MOST + k;
            lender[row] = from;
            pence[row] = v;
            made[row] = days;
            height[to] = k + 1;
            fillPurse(from, purseOf(from) - v);
            fillPurse(to, purseOf(to) + v);
            return WELL;
        }

        /** A paying of all that is due, if it can be: WELL, or why it can not. */
        int repay(int man) {
            int k = dueOf(man);
            if (k == NONE) {
                return NOTHING_DUE;
            }
            int v = penceOf(man, k);
            if (purseOf(man) < v) {
                return PAYER_POOR;
            }
            int to = lenderOf(man, k);
            fillPurse(man, purseOf(man) - v);
            fillPurse(to, purseOf(to) + v);
            drop(man, k);
            return WELL;
        }

        private void drop(int man, int k) {
            if (!hasDebt(man, k)) {
                return;
            }
            int first = man * PILE_MOST;
            for (int j = k; j + 1 < height[man] && j + 1 < PILE_MOST; j++) {
                lender[first + j] = lender[first + j + 1];
                pence[first + j] = pence[first + j + 1];
                made[first + j] = made[first + j + 1];
            }
            height[man]--;
        }

        void passDay() {
            days++;
            for (int man = 0; man < MEN; man++) {
                int first = man * PILE_MOST;
                for (int k = 0; k < PILE_MOST && k < height[man]; k++) {
                    pence[first + k] = grown(pence[first + k], rate);
                }
            }
        }

        /** The men of a man's ring as bits, or NONE. */
        int ringOf(int man) {
            int bits = 0;
            int at = man;
            for (int step = 0; step < MEN && isMan(at); step++) {
                bits |= 1 << at;
                at = lenderOf(at, dueOf(at));
                if (at == man) {
                    return bits;
                }
            }
            return NONE;
        }

        /** Lowers what is due of each of the men by the least of these: that least. */
        int setOffDues(int men) {
            int least = DEBT_MOST;
            for (int man = 0; man < MEN; man++) {
                if ((men & 1 << man) != 0) {
                    least = Math.min(least, penceOf(man, dueOf(man)));
                }
            }
            for (int man = 0; man < MEN; man++) {
                if ((men & 1 << man) != 0) {
                    lower(man, dueOf(man), least);
                }
            }
            return least;
        }

        private void lower(int man, int k, int by) {
            if (!hasDebt(man, k)) {
                return;
            }
            int left = penceOf(man, k) - by;
            if (left > 0) {
                pence[man * PILE_MOST + k] = left;
            } else {
                drop(man, k);
            }
        }

        boolean addSight(int man, int v) {
            if (sights < 0 || sights >= SIGHTS_MOST) {
                return false;
            }
            sightMan[sights] = man;
            sightPence[sights] = v;
            sights++;
            return true;
        }

        boolean sightsHold() {
            for (int i = 0; i < sights && i < SIGHTS_MOST; i++) {
                if (purseOf(sightMan[i]) != sightPence[i]) {
                    return false;
                }
            }
            return true;
        }
    }

    /** The signs of a text, and the parts that were read from them. */
    private static final class Pad {
        private static final int LENDING = 0;
        private static final int PAYING = 1;
        private static final int DAY = 2;

        private final char[] signs;
        private final int[] kind;
        /** Who lends or pays; from MEN on the number of a ?. */
        private final int[] doer;
        private final int[] borrower;
        private final int[] pence;
        private final int[] guess;
        private int length;
        private int parts;
        private int asks;
        private int why;

        Pad() {
            signs = new char[SIGNS_MOST];
            kind = new int[SIGNS_MOST];
            doer = new int[SIGNS_MOST];
            borrower = new int[SIGNS_MOST];
            pence = new int[SIGNS_MOST];
            guess = new int[ASKS_MOST];
            length = 0;
            parts = 0;
            asks = 0;
            why = WELL;
        }

        boolean write(char sign) {
            if (length < 0 || length >= SIGNS_MOST) {
                return false;
            }
            signs[length] = sign;
            length++;
            return true;
        }

        void clear() {
            length = 0;
        }

        /** Reads the signs as parts: the place of the fault, or NONE. */
        int read() {
            parts = 0;
            asks = 0;
            int at = 0;
            for (int part = 0; part < SIGNS_MOST && at < length; part++) {
                int wrong = faultOfPart(at);
                if (wrong != NONE) {
                    return wrong;
                }
                at += takePart(at);
            }
            return NONE;
        }

        /** The sign at a place; behind the last one a sign that can stand nowhere. */
        private char signAt(int at) {
            return at >= 0 && at < length && at < SIGNS_MOST ? signs[at] : (char) 0;
        }

        private static boolean isLetter(char sign) {
            return sign >= 'A' && sign < 'A' + MEN;
        }

        private static boolean isDigit(char sign) {
            return sign >= '0' && sign <= '9';
        }

        private int faultOfPart(int at) {
            char first = signAt(at);
            if (first == '.') {
                return NONE;
            }
            boolean asked = first == '?' && asks < ASKS_MOST;
            if (!asked && !isLetter(first)) {
                return at;
            }
            char second = signAt(at + 1);
            if (second == '!' && !asked) {
                return NONE;
            }
            if (second != '>') {
                return at + 1;
            }
            char third = signAt(at + 2);
            if (!isLetter(third) || third == first) {
                return at + 2;
            }
            char fourth = signAt(at + 3);
            return isDigit(fourth) && fourth != '0' ? NONE : at + 3;
        }

        /** Notes the part that begins at a place, which has no fault: its number of signs. */
        private int takePart(int at) {
            char first = signAt(at);
            if (first == '.') {
                addPart(DAY, 0, 0, 0);
                return 1;
            }
            if (signAt(at + 1) == '!') {
                addPart(PAYING, first - 'A', 0, 0);
                return 2;
            }
            int who = first - 'A';
            if (first == '?') {
                who = MEN + asks;
                asks++;
            }
            int to = signAt(at + 2) - 'A';
            int v = signAt(at + 3) - '0';
            char last = signAt(at + 4);
            if (isDigit(last)) {
                addPart(LENDING, who, to, v * 10 + last - '0');
                return 5;
            }
            addPart(LENDING, who, to, v);
            return 4;
        }

        private void addPart(int what, int who, int to, int v) {
            if (parts < 0 || parts >= SIGNS_MOST) {
                return;
            }
            kind[parts] = what;
            doer[parts] = who;
            borrower[parts] = to;
            pence[parts] = v;
            parts++;
        }

        /** How many ways there are to write one of all men for each ?. */
        int guesses() {
            int ways = 1;
            for (int i = 0; i < asks; i++) {
                ways *= MEN;
            }
            return ways;
        }

        /** Writes a man for each ?; ways are counted by letters, so the last ? changes first. */
        void writeMen(int way) {
            int left = way;
            for (int i = Math.min(asks, ASKS_MOST) - 1; i >= 0; i--) {
                guess[i] = left % MEN;
                left /= MEN;
            }
        }

        int manFor(int i) {
            return i >= 0 && i < asks && i < ASKS_MOST ? guess[i] : NONE;
        }

        private int manOf(int who) {
            return isMan(who) ? who : manFor(who - MEN);
        }

        boolean lendsToHimself() {
            for (int part = 0; part < parts && part < SIGNS_MOST; part++) {
                if (kind[part] == LENDING && manOf(doer[part]) == borrower[part]) {
                    return true;
                }
            }
            return false;
        }

        /**
         * Does the parts, from how things stand in one valley, in another one, up to the first that
         * can not be: its number, or NONE; why is noted.
         */
        int perform(Valley from, Valley valley) {
            valley.copyFrom(from);
            for (int part = 0; part < parts && part < SIGNS_MOST; part++) {
                why = performPart(valley, part);
                if (why != WELL) {
                    return part;
                }
            }
            return NONE;
        }

        private int performPart(Valley valley, int part) {
            if (part < 0 || part >= SIGNS_MOST) {
                return WELL;
            }
            if (kind[part] == DAY) {
                valley.passDay();
                return WELL;
            }
            int man = manOf(doer[part]);
            if (kind[part] == PAYING) {
                return valley.repay(man);
            }
            return valley.lend(man, borrower[part], pence[part]);
        }
    }

    /**
     * What can be paid while no day goes by. No debt changes its pence then, so each man's debts
     * have one order of paying, and all that matters is how many of them each man has paid.
     */
    private static final class Payings {
        /** A place is how many each of the five others has paid, 0 to 5; a bit is kept for each. */
        private static final int PLACES = 6 * 6 * 6 * 6 * 6;
        private static final int WORD = 64;
        private static final int WORDS_MOST = (PLACES + WORD - 1) / WORD;

        private final int[] firstPurse;
        private final int[] purse;
        private final int[] height;
        /** Debts in the order of paying. */
        private final int[] lender;
        private final int[] pence;
        private final int[] paid;
        private final int[] limit;
        private final int[] weight;
        /** The places that some number of the others' payings leads to, as bits. */
        private final long[] layer;
        private int words;

        Payings() {
            firstPurse = new int[MEN];
            purse = new int[MEN];
            height = new int[MEN];
            lender = new int[DEBTS_MOST];
            pence = new int[DEBTS_MOST];
            paid = new int[MEN];
            limit = new int[MEN];
            weight = new int[MEN];
            layer = new long[WORDS_MOST];
            words = 0;
        }

        void load(Valley valley) {
            for (int man = 0; man < MEN; man++) {
                firstPurse[man] = valley.purseOf(man);
                purse[man] = firstPurse[man];
                height[man] = valley.debtsOf(man);
                paid[man] = 0;
                for (int k = 0; k < PILE_MOST && k < height[man]; k++) {
                    int turn = valley.turnOf(man, k);
                    if (isWithin(turn, 1, PILE_MOST)) {
                        int row = man * PILE_MOST + turn - 1;
                        lender[row] = valley.lenderOf(man, k);
                        pence[row] = valley.penceOf(man, k);
                    }
                }
            }
        }

        private boolean isPaidUp(int man) {
            return paid[man] < 0 || paid[man] >= PILE_MOST || paid[man] >= height[man];
        }

        private boolean canPay(int man) {
            return !isPaidUp(man) && purse[man] >= pence[man * PILE_MOST + paid[man]];
        }

        /** Pays what is next; whether there is money for it has been asked before. */
        private void pay(int man) {
            if (isPaidUp(man)) {
                return;
            }
            int row = man * PILE_MOST + paid[man];
            paid[man]++;
            purse[man] -= pence[row];
            if (isMan(lender[row])) {
                purse[lender[row]] += pence[row];
            }
        }

        /** Nobody's paying takes money from another one, so any order ends at the same place. */
        void payAllThatCan() {
            boolean more = true;
            for (int round = 0; round <= DEBTS_MOST && more; round++) {
                more = false;
                for (int man = 0; man < MEN; man++) {
                    for (int k = 0; k < PILE_MOST && canPay(man); k++) {
                        pay(man);
                        more = true;
                    }
                }
            }
        }

        int stillOwing() {
            int bits = 0;
            for (int man = 0; man < MEN; man++) {
                bits |= isPaidUp(man) ? 0 : 1 << man;
            }
            return bits;
        }

        /** When nobody can pay more, nothing less than what lacks for his next paying helps. */
        int leastHelp(int man) {
            int given = 0;
            for (int round = 0; round <= PILE_MOST; round++) {
                payAllThatCan();
                if (stillOwing() == 0) {
                    return given;
                }
                if (!isMan(man) || isPaidUp(man)) {
                    return NONE;
                }
                int lack = pence[man * PILE_MOST + paid[man]] - purse[man];
                purse[man] += lack;
                given += lack;
            }
            return NONE;
        }

        /**
         * The fewest payings of anybody after which a man has done as many as told. His own are
         * needed all of them and take nothing from the others, so he pays whenever he can, and
         * only the payings of the others are to be chosen.
         */
        int fewest(int man, int own) {
            payAllThatCan();
            if (!isMan(man) || paid[man] < own) {
                return NONE;
            }
            setLimits(man);
            Arrays.fill(layer, 0L);
            mark(0);
            for (int others = 0; others <= DEBTS_MOST; others++) {
                if (spread(man, own)) {
                    return own + others;
                }
            }
            return NONE;
        }

        /** None of the others needs to pay more than he ever can. */
        private void setLimits(int goalMan) {
            int places = 1;
            for (int man = 0; man < MEN; man++) {
                limit[man] = man == goalMan ? 0 : paid[man];
                weight[man] = places;
                places *= limit[man] + 1;
            }
            words = Math.min((places + WORD - 1) / WORD, WORDS_MOST);
        }

        /**
         * Whether the goal is met at a place of the layer; else one paying more from each place. It
         * leads to a higher place, so words are taken from the highest down and what is new is not
         * met again.
         */
        private boolean spread(int goalMan, int own) {
            for (int word = words - 1; word >= 0; word--) {
                long bits = layer[word];
                layer[word] = 0L;
                for (int n = 0; n < WORD && bits != 0L; n++) {
                    int bit = Long.numberOfTrailingZeros(bits);
                    bits &= bits - 1L;
                    if (leave(word * WORD + bit, goalMan, own)) {
                        return true;
                    }
                }
            }
            return false;
        }

        private boolean leave(int place, int goalMan, int own) {
            standAt(place);
            for (int k = 0; k < own && canPay(goalMan); k++) {
                pay(goalMan);
            }
            if (paid[goalMan] >= own) {
                return true;
            }
            for (int man = 0; man < MEN; man++) {
                if (paid[man] < limit[man] && canPay(man)) {
                    mark(place + weight[man]);
                }
            }
            return false;
        }

        /** The money and payings that a place stands for. */
        private void standAt(int place) {
            System.arraycopy(firstPurse, 0, purse, 0, MEN);
            Arrays.fill(paid, 0);
            int left = place;
            for (int man = 0; man < MEN; man++) {
                int size = limit[man] + 1;
                if (size > 0) {
                    int own = left % size;
                    left /= size;
                    for (int k = 0; k < own; k++) {
                        pay(man);
                    }
                }
            }
        }

        private void mark(int place) {
            if (place >= 0 && place < PLACES) {
                layer[place / WORD] |= 1L << place % WORD;
            }
        }
    }
}
