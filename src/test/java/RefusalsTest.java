import java.util.ArrayList;
import java.util.List;

/**
 * The section 'Terms': where two refusals fit the first of them is told, and a refused call changes
 * nothing. Each call is made on an object of its own, which is then held against a twin that was made in
 * the same way but not asked. Calls that only tell something are held so too.
 */
public final class RefusalsTest {
    private static final int UNKNOWN = -1, OUTSIDE = -2, STATE = -3, FULL = -4, NO = -5;
    private static final long LOST = -1000000000000000000L;
    private static final int LEAST = Integer.MIN_VALUE, MOST = Integer.MAX_VALUE;

    private interface Call {
        long on(LentPiles x);
    }

    /** A way to make an object. */
    private interface Setting {
        LentPiles make();
    }

    private record Refused(String name, Call call, long want) {
    }

    public static void main(String[] args) {
        String[] names = {"new", "lived", "fault", "asks", "full", "can not be"};
        Setting[] settings = {LentPiles::new, RefusalsTest::lived, RefusalsTest::withFault, RefusalsTest::withAsks,
            RefusalsTest::full, RefusalsTest::canNotBe};
        for (int i = 0; i < settings.length; i++) {
            refusedIn(names[i], settings[i], anywhere());
            unchangedIn(names[i], settings[i], tellings());
        }
        refusedIn("new", LentPiles::new, inANewObject());
        refusedIn("lived", RefusalsTest::lived, inALivedOne());
        refusedIn("fault", RefusalsTest::withFault, byAFault());
        refusedIn("asks", RefusalsTest::withAsks, bySomeAsks());
        refusedIn("full", RefusalsTest::full, byFullness());
        refusedIn("can not be", RefusalsTest::canNotBe, byAPart());
        sightsHold();
        theProbeTellsApart();
        Check.end("RefusalsTest");
    }

    private static void refusedIn(String setting, Setting made, List<Refused> calls) {
        String twin = Probe.of(made.make());
        for (Refused refused : calls) {
            LentPiles x = made.make();
            Check.due(setting + ": " + refused.name, refused.call.on(x), refused.want);
            Check.holds(setting + ": changed by " + refused.name, twin.equals(Probe.of(x)));
        }
    }

    private static void unchangedIn(String setting, Setting made, List<Refused> calls) {
        String twin = Probe.of(made.make());
        for (Refused telling : calls) {
            LentPiles x = made.make();
            long first = telling.call.on(x);
            Check.due(setting + ": again " + telling.name, telling.call.on(x), first);
            Check.holds(setting + ": changed by " + telling.name, twin.equals(Probe.of(x)));
        }
    }

    // ---- settings

    /** Debts, days, a law, a rate, the first image; A and B in a ring; a text that can be; sights that hold. */
    private static LentPiles lived() {
        LentPiles x = new LentPiles();
        Check.does(x, "A>B5.C>B7", 3);
        x.set(0, 2);
        x.seen(1, 32);
        x.image(0);
        Check.does(x, "B>A3A>C2", 2);
        x.set(1, 4);
        x.give(1, 1, 0);
        x.forget();
        x.seen(1, 29);
        x.seen(4, 16);
        Check.pad(x, "D>E1.E!");
        return x;
    }

    private static LentPiles withText(String text) {
        LentPiles x = lived();
        Check.pad(x, text);
        return x;
    }

    private static LentPiles withFault() {
        return withText("D>E1?>D2A>");
    }

    private static LentPiles withAsks() {
        return withText("D>E1?>D2.A!");
    }

    private static LentPiles canNotBe() {
        return withText("D>E1.D!");
    }

    /** A pad of sixty signs, six sights, A's and F's piles full, both images. */
    private static LentPiles full() {
        LentPiles x = new LentPiles();
        x.image(1);
        Check.does(x, "B>A1".repeat(5), 5);
        Check.does(x, "B>F1".repeat(5), 5);
        int[] behind = {20, 20, 11, 29, 20, 20};
        for (int man = 0; man < 6; man++) {
            x.money(man, 20);
            x.seen(man, behind[man]);
        }
        x.image(0);
        Check.pad(x, ".".repeat(56) + "C>D9");
        return x;
    }

    // ---- calls

    private static void add(List<Refused> all, String name, long want, Call call) {
        all.add(new Refused(name, call, want));
    }

    /** What is refused whatever the state. */
    private static List<Refused> anywhere() {
        List<Refused> all = new ArrayList<>();
        for (int man : new int[] {-1, 6, LEAST, MOST}) {
            unknownMan(all, man);
        }
        for (int v : new int[] {-1, 1000, LEAST, MOST}) {
            add(all, "money(0, " + v + ")", OUTSIDE, x -> x.money(0, v));
            add(all, "money(5, " + v + ")", OUTSIDE, x -> x.money(5, v));
        }
        for (int[] w : new int[][] {{0, -1}, {0, 3}, {1, -1}, {1, 10}, {-1, 0}, {2, 0}, {2, -1}, {LEAST, MOST}}) {
            add(all, "set(" + w[0] + ", " + w[1] + ")", OUTSIDE, x -> x.set(w[0], w[1]));
        }
        for (int sign : new int[] {32, 127, 0, -1, 65536 + '.', LEAST, MOST}) {
            add(all, "say(" + sign + ")", OUTSIDE, x -> x.say(sign));
        }
        for (int what : new int[] {-1, 2, LEAST, MOST}) {
            add(all, "judge(" + what + ")", OUTSIDE, x -> x.judge(what));
        }
        for (int pence : new int[] {-1, 10000, LEAST, MOST}) {
            add(all, "seen(3, " + pence + ")", OUTSIDE, x -> x.seen(3, pence));
        }
        for (int n : new int[] {-1, 2, 32, LEAST, MOST}) {
            add(all, "image(" + n + ")", OUTSIDE, x -> x.image(n));
            add(all, "restore(" + n + ")", OUTSIDE, x -> x.restore(n));
        }
        for (int what : new int[] {-1, 5, 9, 16, 19, 26, LEAST, MOST}) {
            add(all, "told(" + what + ")", OUTSIDE, x -> x.told(what));
        }
        wrongNumbers(all);
        return all;
    }

    /** No such man, with all other numbers wrong too where there are some. */
    private static void unknownMan(List<Refused> all, int man) {
        String of = "(" + man + ")";
        add(all, "money" + of, UNKNOWN, x -> x.money(man, 5));
        add(all, "money outside" + of, UNKNOWN, x -> x.money(man, 1000));
        add(all, "debt" + of, UNKNOWN, x -> x.debt(man, 0, 0));
        add(all, "debt outside" + of, UNKNOWN, x -> x.debt(man, 0, 3));
        add(all, "due" + of, UNKNOWN, x -> x.due(man));
        add(all, "owes" + of, UNKNOWN, x -> x.owes(man, 0));
        add(all, "owed" + of, UNKNOWN, x -> x.owes(0, man));
        add(all, "owes both" + of, UNKNOWN, x -> x.owes(man, man));
        add(all, "seen" + of, UNKNOWN, x -> x.seen(man, 5));
        add(all, "seen outside" + of, UNKNOWN, x -> x.seen(man, 10000));
        add(all, "soon" + of, UNKNOWN, x -> x.soon(man, 0));
        add(all, "help" + of, UNKNOWN, x -> x.help(man));
        add(all, "ring" + of, UNKNOWN, x -> x.ring(man));
        add(all, "setOff" + of, UNKNOWN, x -> x.setOff(man));
        add(all, "give" + of, UNKNOWN, x -> x.give(man, 0, 1));
        add(all, "give to" + of, UNKNOWN, x -> x.give(1, 0, man));
        add(all, "give both" + of, UNKNOWN, x -> x.give(man, 0, man));
        add(all, "pawn" + of, UNKNOWN, x -> x.pawn(man, 0));
        add(all, "odds" + of, LOST + UNKNOWN, x -> x.odds(man, 1, 1, 1, 0));
        add(all, "odds outside" + of, LOST + UNKNOWN, x -> x.odds(man, 0, 13, 11, 2));
    }

    /** Debts that nobody has; odds and years of wrong numbers. */
    private static void wrongNumbers(List<Refused> all) {
        for (int k : new int[] {-1, 5, LEAST, MOST}) {
            add(all, "debt(1, " + k + ")", UNKNOWN, x -> x.debt(1, k, 0));
            add(all, "debt outside(0, " + k + ")", UNKNOWN, x -> x.debt(0, k, 3));
            add(all, "soon(1, " + k + ")", UNKNOWN, x -> x.soon(1, k));
            add(all, "give(1, " + k + ", 2)", UNKNOWN, x -> x.give(1, k, 2));
            add(all, "pawn(1, " + k + ")", UNKNOWN, x -> x.pawn(1, k));
        }
        add(all, "give(0, 0, 0)", UNKNOWN, x -> x.give(0, 0, 0));
        add(all, "give(1, 0, 1)", UNKNOWN, x -> x.give(1, 0, 1));
        int[][] odds = {{0, 1, 1, 0}, {100, 1, 1, 0}, {1, -1, 1, 0}, {1, 13, 1, 0}, {1, 1, -1, 0}, {1, 1, 11, 0},
            {1, 1, 1, -1}, {1, 1, 1, 2}, {LEAST, MOST, LEAST, MOST}};
        for (int[] o : odds) {
            for (int man : new int[] {0, 1, 5}) {
                add(all, "odds outside", LOST + OUTSIDE, x -> x.odds(man, o[0], o[1], o[2], o[3]));
            }
        }
        int[][] years = {{-1, 1, 0}, {10000, 1, 0}, {0, 0, 0}, {0, 100, 0}, {0, 1, -1}, {0, 1, 3}, {LEAST, MOST, LEAST}};
        for (int[] y : years) {
            add(all, "year outside", OUTSIDE, x -> x.year(y[0], y[1], y[2]));
        }
    }

    private static List<Refused> inANewObject() {
        List<Refused> all = new ArrayList<>();
        for (int man = 0; man < 6; man++) {
            int who = man;
            add(all, "debt(" + man + ", 0, 0)", UNKNOWN, x -> x.debt(who, 0, 0));
            add(all, "debt(" + man + ", 0, 3)", UNKNOWN, x -> x.debt(who, 0, 3));
            add(all, "soon(" + man + ", 0)", UNKNOWN, x -> x.soon(who, 0));
            add(all, "pawn(" + man + ", 0)", UNKNOWN, x -> x.pawn(who, 0));
            add(all, "give(" + man + ", 0)", UNKNOWN, x -> x.give(who, 0, (who + 1) % 6));
            add(all, "setOff(" + man + ")", STATE, x -> x.setOff(who));
            add(all, "odds(" + man + ")", LOST + STATE, x -> x.odds(who, 1, 0, 0, 0));
            add(all, "odds(" + man + ")", LOST + STATE, x -> x.odds(who, 99, 12, 10, 1));
        }
        add(all, "restore(0)", STATE, x -> x.restore(0));
        add(all, "restore(1)", STATE, x -> x.restore(1));
        return all;
    }

    private static List<Refused> inALivedOne() {
        List<Refused> all = new ArrayList<>();
        add(all, "debt(1, 2, 0)", UNKNOWN, x -> x.debt(1, 2, 0));
        add(all, "debt(1, 1, 3)", OUTSIDE, x -> x.debt(1, 1, 3));
        add(all, "debt(1, 1, -1)", OUTSIDE, x -> x.debt(1, 1, -1));
        add(all, "soon(1, 2)", UNKNOWN, x -> x.soon(1, 2));
        add(all, "pawn(1, 2)", UNKNOWN, x -> x.pawn(1, 2));
        add(all, "give(1, 2, 0)", UNKNOWN, x -> x.give(1, 2, 0));
        add(all, "give(0, 0, 0)", UNKNOWN, x -> x.give(0, 0, 0));
        add(all, "setOff(2)", STATE, x -> x.setOff(2));
        add(all, "setOff(5)", STATE, x -> x.setOff(5));
        add(all, "odds(5)", LOST + STATE, x -> x.odds(5, 1, 1, 1, 1));
        add(all, "restore(1)", STATE, x -> x.restore(1));
        return all;
    }

    private static List<Refused> byAFault() {
        List<Refused> all = new ArrayList<>();
        add(all, "judge(0)", NO, x -> x.judge(0));
        add(all, "judge(1)", NO, x -> x.judge(1));
        add(all, "done()", NO, x -> x.done());
        for (int i : new int[] {-2, -1, 0, 1, 3, LEAST, MOST}) {
            add(all, "filled(" + i + ")", NO, x -> x.filled(i));
        }
        return all;
    }

    private static List<Refused> bySomeAsks() {
        List<Refused> all = new ArrayList<>();
        add(all, "judge(0)", STATE, x -> x.judge(0));
        add(all, "judge(1)", STATE, x -> x.judge(1));
        add(all, "done()", STATE, x -> x.done());
        return all;
    }

    private static List<Refused> byFullness() {
        List<Refused> all = new ArrayList<>();
        for (int sign : new int[] {33, '.', '1', 'A', 126}) {
            add(all, "say(" + sign + ")", FULL, x -> x.say(sign));
        }
        for (int pence : new int[] {0, 19, 20, 9999}) {
            add(all, "seen(0, " + pence + ")", FULL, x -> x.seen(0, pence));
            add(all, "seen(5, " + pence + ")", FULL, x -> x.seen(5, pence));
        }
        add(all, "debt(0, 4, 3)", OUTSIDE, x -> x.debt(0, 4, 3));
        add(all, "setOff(0)", STATE, x -> x.setOff(0));
        return all;
    }

    private static List<Refused> byAPart() {
        List<Refused> all = new ArrayList<>();
        add(all, "done()", NO, x -> x.done());
        return all;
    }

    /** What only tells: asked twice it answers the same, and nothing is changed. */
    private static List<Refused> tellings() {
        List<Refused> all = new ArrayList<>();
        add(all, "fault()", 0, x -> x.fault());
        add(all, "judge(0)", 0, x -> x.judge(0));
        add(all, "judge(1)", 0, x -> x.judge(1));
        for (int i = -2; i <= 3; i++) {
            int which = i;
            add(all, "filled(" + i + ")", 0, x -> x.filled(which));
        }
        add(all, "barred()", 0, x -> x.barred());
        add(all, "whom()", 0, x -> x.whom());
        for (int man = 0; man < 6; man++) {
            int who = man;
            add(all, "due(" + man + ")", 0, x -> x.due(who));
            add(all, "owes(" + man + ", 0)", 0, x -> x.owes(who, 0));
            add(all, "help(" + man + ")", 0, x -> x.help(who));
            add(all, "ring(" + man + ")", 0, x -> x.ring(who));
            for (int k = 0; k < 5; k += 4) {
                int debt = k;
                add(all, "debt(" + man + ", " + k + ", 1)", 0, x -> x.debt(who, debt, 1));
                add(all, "soon(" + man + ", " + k + ")", 0, x -> x.soon(who, debt));
                add(all, "pawn(" + man + ", " + k + ")", 0, x -> x.pawn(who, debt));
            }
            add(all, "odds(" + man + ")", 0, x -> x.odds(who, 5, 12, 5, 0));
            add(all, "told money " + man, 0, x -> x.told(10 + who));
            add(all, "told debts " + man, 0, x -> x.told(20 + who));
        }
        for (int what = 0; what < 3; what++) {
            int which = what;
            add(all, "year(" + what + ")", 0, x -> x.year(9999, 99, which));
        }
        return all;
    }

    /** Were they not held, the probe could not see that one of them had changed. */
    private static void sightsHold() {
        Check.due("sights of a lived one", lived().filled(-1), 1);
        Check.due("sights of a full one", full().filled(-1), 1);
    }

    /** The probe itself: one thing changed is seen by it. */
    private static void theProbeTellsApart() {
        Call[] changes = {x -> x.money(4, 21), x -> x.set(0, 1), x -> x.set(1, 5), x -> x.say('.'), x -> x.wipe(),
            x -> x.done(), x -> x.seen(0, 20), x -> x.forget(), x -> x.setOff(0), x -> x.give(1, 0, 5),
            x -> x.image(0), x -> x.image(1), x -> x.restore(0)};
        String twin = Probe.of(lived());
        for (int i = 0; i < changes.length; i++) {
            LentPiles x = lived();
            changes[i].on(x);
            Check.holds("change " + i + " is seen", !twin.equals(Probe.of(x)));
        }
    }
}
