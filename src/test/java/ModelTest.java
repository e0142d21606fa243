import java.util.Random;

/** Long runs of drawn calls: the class must answer what the model answers. */
public final class ModelTest {
    private static final int RUNS = 300;
    private static final int CALLS = 512;

    private final Random draw;
    private final LentPiles x = new LentPiles();
    private final Model m = new Model();
    private final StringBuilder story = new StringBuilder();
    /** How dear debts are in this run. */
    private final int dear;
    private int calls = 0;
    private boolean wrong = false;

    private ModelTest(long seed) {
        draw = new Random(seed);
        dear = draw.nextBoolean() ? 9 : 99;
    }

    public static void main(String[] args) {
        for (int run = 0; run < RUNS; run++) {
            ModelTest test = new ModelTest(run);
            test.start();
            while (test.calls < CALLS && !test.wrong) {
                test.next();
            }
            Check.holds("run " + run + ":" + test.story, !test.wrong);
        }
        Check.end("ModelTest");
    }

    private void same(String call, long got, long want) {
        calls++;
        if (wrong || got != want) {
            story.append(wrong ? "" : "\n  " + call + " answered " + got + ", due is " + want);
            wrong = true;
        } else {
            story.append(' ').append(call);
        }
    }

    private int any(int least, int most) {
        return least + draw.nextInt(most - least + 1);
    }

    /** A number of a span, now and then one beside it. */
    private int near(int least, int most) {
        int odd = draw.nextInt(60);
        return odd == 0 ? least - 1 : odd == 1 ? most + 1 : odd == 2 ? draw.nextInt() : any(least, most);
    }

    private int man() {
        return near(0, 5);
    }

    private void say(String text) {
        for (char c : text.toCharArray()) {
            same("say(" + (int) c + ")", x.say(c), m.say(c));
        }
    }

    private void done() {
        same("done()", x.done(), m.done());
    }

    private char letter() {
        return (char) ('A' + draw.nextInt(6));
    }

    private String lending(boolean ask) {
        char to = letter();
        char from = letter();
        while (from == to) {
            from = letter();
        }
        return (ask ? "?" : "" + from) + ">" + to + any(1, dear);
    }

    /** Some runs begin with piles that are nearly full. */
    private void start() {
        int law = any(0, 2);
        same("set(0, " + law + ")", x.set(0, law), m.set(0, law));
        for (int man = 0; man < 6; man++) {
            int v = any(0, 2) == 0 ? 999 : any(0, 200);
            same("money(" + man + ", " + v + ")", x.money(man, v), m.money(man, v));
        }
        int rounds = any(0, 5);
        for (int round = 0; round < rounds; round++) {
            StringBuilder text = new StringBuilder();
            for (int part = 0; part < 5; part++) {
                text.append(lending(false));
            }
            say(text.toString());
            done();
            same("wipe()", x.wipe(), m.wipe());
        }
        for (int man = 0; man < 6 && any(0, 3) > 0; man++) {
            int v = any(0, 3) == 0 ? 0 : any(0, dear * 2);
            same("money(" + man + ", " + v + ")", x.money(man, v), m.money(man, v));
        }
    }

    private void text() {
        same("wipe()", x.wipe(), m.wipe());
        StringBuilder text = new StringBuilder();
        int parts = any(0, 4);
        boolean asks = any(0, 3) == 0;
        for (int part = 0; part < parts; part++) {
            int kind = any(0, 9);
            text.append(kind < 5 ? lending(asks && any(0, 1) == 0) : kind < 8 ? letter() + "!" : ".");
        }
        if (any(0, 4) == 0 && text.length() > 0) {
            String signs = "ABCDEFG?>!.0123456789x";
            text.setCharAt(any(0, text.length() - 1), signs.charAt(any(0, signs.length() - 1)));
        }
        if (any(0, 6) == 0 && text.length() > 0) {
            text.setLength(text.length() - 1);
        }
        say(text.toString());
        same("fault()", x.fault(), m.fault());
        int what = near(0, 1);
        same("judge(" + what + ")", x.judge(what), m.judge(what));
        for (int i = -1; i < 3 && asks; i++) {
            same("filled(" + i + ")", x.filled(i), m.filled(i));
        }
        done();
    }

    private void next() {
        switch (any(0, 13)) {
            case 0:
            case 1:
            case 2:
                text();
                break;
            case 3:
            case 4:
                change();
                break;
            case 5:
                sights();
                break;
            case 6:
            case 7:
            case 8:
                look();
                break;
            case 9:
            case 10:
            case 11:
                payings();
                break;
            default:
                chances();
        }
    }

    private void change() {
        int man = man();
        int v = any(0, 2) == 0 ? near(0, 999) : any(0, 30);
        int which = near(0, 1);
        int k = near(0, 3);
        int other = man();
        switch (any(0, 5)) {
            case 0:
                same("money(" + man + ", " + v + ")", x.money(man, v), m.money(man, v));
                break;
            case 1:
                v = near(0, which == 0 ? 2 : 9);
                same("set(" + which + ", " + v + ")", x.set(which, v), m.set(which, v));
                break;
            case 2:
                same("give(" + man + ", " + k + ", " + other + ")", x.give(man, k, other), m.give(man, k, other));
                break;
            case 3:
                same("setOff(" + man + ")", x.setOff(man), m.setOff(man));
                break;
            case 4:
                same("image(" + which + ")", x.image(which), m.image(which));
                break;
            default:
                if (any(0, 2) == 0) {
                    same("restore(" + which + ")", x.restore(which), m.restore(which));
                }
        }
    }

    private void sights() {
        int man = man();
        int v = any(0, 5) == 0 ? near(0, 9999) : m.told(10 + any(0, 5)) + any(-9, 9);
        if (any(0, 1) == 0) {
            same("forget()", x.forget(), m.forget());
        } else {
            same("seen(" + man + ", " + v + ")", x.seen(man, v), m.seen(man, v));
        }
        int i = near(-1, 3);
        same("filled(" + i + ")", x.filled(i), m.filled(i));
    }

    private void look() {
        int man = man();
        int other = man();
        int k = near(0, 4);
        int what = near(0, 2);
        int told = near(0, 27);
        same("debt(" + man + ", " + k + ", " + what + ")", x.debt(man, k, what), m.debt(man, k, what));
        same("due(" + man + ")", x.due(man), m.due(man));
        same("owes(" + man + ", " + other + ")", x.owes(man, other), m.owes(man, other));
        same("told(" + told + ")", x.told(told), m.told(told));
        same("ring(" + man + ")", x.ring(man), m.ring(man));
        same("pawn(" + man + ", " + k + ")", x.pawn(man, k), m.pawn(man, k));
    }

    private void payings() {
        int man = man();
        int k = near(0, 4);
        switch (any(0, 3)) {
            case 0:
                same("barred()", x.barred(), m.barred());
                break;
            case 1:
                same("help(" + man + ")", x.help(man), m.help(man));
                break;
            case 2:
                if (any(0, 3) == 0) {
                    same("whom()", x.whom(), m.whom());
                }
                break;
            default:
                int soon = m.soon(man, k);
                if (soon != Model.TOO_MANY) {
                    same("soon(" + man + ", " + k + ")", x.soon(man, k), soon);
                }
        }
    }

    private void chances() {
        int man = man();
        int e = any(0, 1) == 0 ? any(1, 9) : near(1, 99);
        int n = near(0, 12);
        int t = near(0, 10);
        int part = near(0, 1);
        same("odds(" + man + ", " + e + ", " + n + ", " + t + ", " + part + ")",
                x.odds(man, e, n, t, part), m.odds(man, e, n, t, part));
        int seed = near(0, 9999);
        int days = near(1, 99);
        int what = near(0, 2);
        same("year(" + seed + ", " + days + ", " + what + ")", x.year(seed, days, what), m.year(seed, days, what));
    }
}
