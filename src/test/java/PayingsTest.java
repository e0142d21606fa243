import java.util.Random;

/** Valleys of many debts and little money: what can be paid, how soon, and with whose help. */
public final class PayingsTest {
    private static final int VALLEYS = 1500;

    public static void main(String[] args) {
        for (int seed = 0; seed < VALLEYS; seed++) {
            valley(seed);
        }
        chain();
        fullPiles();
        allFree();
        Check.end("PayingsTest");
    }

    private static void valley(int seed) {
        Random draw = new Random(seed);
        LentPiles x = new LentPiles();
        Model m = new Model();
        for (int man = 0; man < 6; man++) {
            x.money(man, 999);
            m.money(man, 999);
        }
        int dear = 2 + draw.nextInt(12);
        int debts = draw.nextInt(25);
        for (int i = 0; i < debts; i++) {
            int to = draw.nextInt(6);
            int from = (to + 1 + draw.nextInt(5)) % 6;
            String text = (char) ('A' + from) + ">" + (char) ('A' + to) + (1 + draw.nextInt(dear));
            for (char c : text.toCharArray()) {
                x.say(c);
                m.say(c);
            }
            Check.due(seed + " done of " + text, x.done(), m.done());
            x.wipe();
            m.wipe();
        }
        int law = draw.nextInt(3);
        x.set(0, law);
        m.set(0, law);
        int rich = 1 + draw.nextInt(2 * dear);
        for (int man = 0; man < 6; man++) {
            int v = draw.nextInt(3) == 0 ? draw.nextInt(rich) : 0;
            x.money(man, v);
            m.money(man, v);
        }
        compare(seed, x, m);
    }

    private static void compare(int seed, LentPiles x, Model m) {
        Check.due(seed + " barred", x.barred(), m.barred());
        Check.due(seed + " whom", x.whom(), m.whom());
        for (int man = 0; man < 6; man++) {
            Check.due(seed + " help " + man, x.help(man), m.help(man));
            Check.due(seed + " ring " + man, x.ring(man), m.ring(man));
            for (int k = 0; k < 5; k++) {
                Check.due(seed + " pawn " + man + " " + k, x.pawn(man, k), m.pawn(man, k));
                int soon = m.soon(man, k);
                if (soon != Model.TOO_MANY) {
                    Check.due(seed + " soon " + man + " " + k, x.soon(man, k), soon);
                }
            }
        }
    }

    /** F's money must go through all the piles, and each debt to the next one lies undermost. */
    private static void chain() {
        LentPiles x = new LentPiles();
        for (int man = 0; man < 6; man++) {
            x.money(man, 999);
        }
        for (int man = 1; man < 6; man++) {
            char to = (char) ('A' + man);
            char from = (char) ('A' + man - 1);
            char far = man == 1 ? 'C' : 'A';
            Check.does(x, from + ">" + to + "50" + (far + ">" + to + "1").repeat(4), 5);
        }
        for (int man = 0; man < 5; man++) {
            x.money(man, man == 0 ? 0 : 4);
        }
        x.money(5, 54);
        Check.due("chain: B's oldest", x.soon(1, 0), 25);
        Check.due("chain: E's oldest", x.soon(4, 0), 10);
        Check.due("chain: nobody is barred", x.barred(), 0);
        x.money(5, 53);
        Check.due("chain: one pence short", x.soon(1, 0), -6);
        Check.due("chain: help", x.help(5), 1);
        Check.due("chain: whom", x.whom(), 5);
    }

    /** All piles are full, and money goes round and round. */
    private static void fullPiles() {
        LentPiles x = new LentPiles();
        for (int man = 0; man < 6; man++) {
            x.money(man, 999);
        }
        for (int man = 0; man < 6; man++) {
            char to = (char) ('A' + man);
            char from = (char) ('A' + (man + 5) % 6);
            Check.does(x, (from + ">" + to + "9").repeat(5), 5);
        }
        for (int man = 0; man < 6; man++) {
            x.money(man, man == 5 ? 9 : 0);
        }
        // F pays E, E pays D and so on: five rounds of six, and A is the last in each.
        Check.due("full: B's oldest", x.soon(1, 0), 29);
        Check.due("full: A's oldest", x.soon(0, 0), 30);
        Check.due("full: F's oldest", x.soon(5, 0), 25);
        Check.due("full: F's last", x.soon(5, 4), 1);
        Check.due("full: E's last", x.soon(4, 4), 2);
        for (int man = 0; man < 6; man++) {
            x.money(man, 999);
            Check.due("full: by himself", x.soon(man, 0), 5);
        }
        x.money(0, 0);
        Check.due("full: A by B's five payings", x.soon(0, 0), 10);
    }

    /** The dearest search: five men can pay all that they owe in any order, and F needs it all. */
    private static void allFree() {
        LentPiles x = new LentPiles();
        for (int man = 0; man < 6; man++) {
            x.money(man, 999);
        }
        x.set(0, 1);
        for (int man = 0; man < 5; man++) {
            String to = ">" + (char) ('A' + man);
            String from = String.valueOf((char) ('A' + (man + 1) % 5));
            Check.does(x, (from + to + "1").repeat(4) + "F" + to + "10", 5);
        }
        Check.does(x, "A>F1".repeat(4) + "B>F99", 5);
        int[] missing = {0, 1, 10, 11, 20, 21, 30, 31, 40, 41, 50, 51};
        int[] soon = {5, 10, 10, 15, 15, 20, 20, 25, 25, 30, 30, -6};
        for (int i = 0; i < missing.length; i++) {
            x.money(5, 103 - missing[i]);
            Check.due("all free: F's last, " + missing[i] + " missing", x.soon(5, 4), soon[i]);
            Check.due("all free: barred", x.barred(), soon[i] < 0 ? 32 : 0);
        }
    }
}
