/**
 * Block 2 of the document and promises 7 to 14: the edges of judging and doing texts, of what is told of
 * debts, and of filling in who is not told.
 */
public final class DaysBoundsTest {
    private static final int NONE = -6, UNKNOWN = -1, OUTSIDE = -2, STATE = -3, FULL = -4, NO = -5;

    public static void main(String[] args) {
        judgeTakes0And1();
        textsThatAllCanBe();
        theLenderHasLess();
        thePileIsFull();
        theLeastReason();
        nothingIsDue();
        heHasLessThanIsDue();
        partsAreCountedFrom0();
        theFirstPartThatCanNotBe();
        judgeRefuses();
        doneTellsHowManyParts();
        doneIsAllOrNothing();
        doneRefuses();
        debtsAre0To4();
        debtsComeDown();
        debtTakes0To2();
        dueFrom0To4();
        owesInAll();
        penceSeenAre0To9999();
        sightsAreSix();
        forgetOfAnyNumber();
        sightsHoldToThePenny();
        aSightOf9999();
        sixSights();
        filledWithoutAsks();
        filledIsNotHimWhoBorrows();
        filledByHowManyAsks();
        filledTakesTheAsksNumber();
        filledTheFirstByLetters();
        filledByTheLastWayAlone();
        filledPartsThatCanNotBe();
        filledRefuses();
        Check.end("DaysBoundsTest");
    }

    private static void due(String what, long got, long want) {
        Check.due(what, got, want);
    }

    private static LentPiles after(String text, int parts) {
        LentPiles x = new LentPiles();
        Check.does(x, text, parts);
        return x;
    }

    private static void judged(LentPiles x, String text, int part, int why) {
        Check.pad(x, text);
        due("7 part of " + text, x.judge(0), part);
        due("7 why of " + text, x.judge(1), why);
    }

    private static void fine(LentPiles x, String text) {
        judged(x, text, NONE, NONE);
    }

    private static void judgeTakes0And1() {
        LentPiles x = new LentPiles();
        Check.pad(x, ".A!");
        due("7 part", x.judge(0), 1);
        due("7 why", x.judge(1), 3);
        for (int what : new int[] {-1, 2, 3, Integer.MIN_VALUE, Integer.MAX_VALUE}) {
            due("7 what " + what, x.judge(what), OUTSIDE);
        }
    }

    private static void textsThatAllCanBe() {
        LentPiles x = new LentPiles();
        fine(x, "");
        fine(x, ".");
        fine(x, ".".repeat(60));
        fine(x, "A>B1B!".repeat(10));
    }

    private static void theLenderHasLess() {
        for (int man = 0; man < 6; man++) {
            LentPiles x = new LentPiles();
            String to = (char) ('A' + man) + ">" + (char) ('A' + (man + 1) % 6);
            fine(x, to + "20");
            judged(x, to + "21", 0, 1);
            fine(x, to + "19" + to + "1");
            judged(x, to + "19" + to + "2", 1, 1);
            x.money(man, 0);
            judged(x, to + "1", 0, 1);
            x.money(man, 1);
            fine(x, to + "1");
            x.money(man, 98);
            judged(x, to + "99", 0, 1);
            x.money(man, 99);
            fine(x, to + "99");
        }
        LentPiles y = new LentPiles();
        fine(y, "A>B20B>C40");
        judged(y, "A>B20B>C41", 1, 1);
        fine(y, "A>B20B!A>B20");
    }

    private static void thePileIsFull() {
        LentPiles x = new LentPiles();
        fine(x, "A>B1".repeat(5));
        judged(x, "A>B1".repeat(6), 5, 2);
        fine(x, "A>B1".repeat(5) + "B!A>B1");
        fine(x, "A>B1".repeat(5) + "A>C1C>A1");
        judged(x, "A>B1".repeat(5) + ".C>B1", 6, 2);
        Check.does(x, "A>B1".repeat(5), 5);
        judged(x, "C>B1", 0, 2);
        judged(x, "B!C>B1D>B1", 2, 2);
    }

    private static void theLeastReason() {
        LentPiles x = after("A>B1".repeat(5), 5);
        judged(x, "A>B15", 0, 2);
        judged(x, "A>B16", 0, 1);
        x.money(0, 0);
        judged(x, "A>B1", 0, 1);
    }

    private static void nothingIsDue() {
        for (int man = 0; man < 6; man++) {
            char who = (char) ('A' + man);
            char other = (char) ('A' + (man + 1) % 6);
            LentPiles x = new LentPiles();
            judged(x, who + "!", 0, 3);
            judged(x, who + ">" + other + "1" + who + "!", 1, 3);
            fine(x, other + ">" + who + "1" + who + "!");
            judged(x, other + ">" + who + "1" + who + "!" + who + "!", 2, 3);
            x.money(man, 0);
            judged(x, who + "!", 0, 3);
        }
    }

    private static void heHasLessThanIsDue() {
        for (int law = 0; law < 3; law++) {
            LentPiles x = after("A>B5C>B9D>B7", 3);
            x.set(0, law);
            int pence = new int[] {7, 5, 9}[law];
            x.money(1, pence);
            fine(x, "B!");
            x.money(1, pence - 1);
            judged(x, "B!", 0, 4);
            x.money(1, 21);
            fine(x, "B!B!B!");
            x.money(1, 20);
            judged(x, "B!B!B!", 2, 4);
            x.money(1, 0);
            judged(x, "B!", 0, 4);
        }
        LentPiles y = after("A>B9", 1);
        y.set(1, 9);
        y.money(1, 18);
        fine(y, ".B!");
        judged(y, "..B!", 2, 4);
        y.money(1, 17);
        judged(y, ".B!", 1, 4);
    }

    private static void partsAreCountedFrom0() {
        LentPiles x = new LentPiles();
        judged(x, "A!", 0, 3);
        judged(x, ".A!", 1, 3);
        judged(x, ".".repeat(58) + "A!", 58, 3);
        fine(x, ".".repeat(55) + "A>B20");
        judged(x, ".".repeat(55) + "A>B21", 55, 1);
        judged(x, "A>B10A>B10A!", 2, 3);
    }

    private static void theFirstPartThatCanNotBe() {
        LentPiles x = new LentPiles();
        judged(x, "A!A>B21B!", 0, 3);
        judged(x, "A>B21A!", 0, 1);
        judged(x, "A>B1A>B20A!C>B21", 1, 1);
        // What can not be is not gone on from: B! could be without the part before it.
        judged(x, "A>B1C!B!", 1, 3);
    }

    private static void judgeRefuses() {
        LentPiles x = new LentPiles();
        for (String text : new String[] {"x", "A", "A>A1", "?", "?>A0", "A!x", "?>A1?>A1?>A1?>A1"}) {
            Check.pad(x, text);
            due("7 a fault " + text, x.judge(0), NO);
            due("7 a fault " + text, x.judge(1), NO);
            due("7 outside first " + text, x.judge(-1), OUTSIDE);
            due("7 outside first " + text, x.judge(2), OUTSIDE);
        }
        for (String text : new String[] {"?>A1", "A!?>A1", "?>A1A!", "?>A99", "?>A1?>A1?>A1"}) {
            Check.pad(x, text);
            due("7 some ? " + text, x.judge(0), STATE);
            due("7 some ? " + text, x.judge(1), STATE);
            due("7 outside first " + text, x.judge(-1), OUTSIDE);
            due("7 outside first " + text, x.judge(2), OUTSIDE);
        }
    }

    private static void doneTellsHowManyParts() {
        LentPiles x = new LentPiles();
        String[] texts = {"", ".", "A>B1", "B!", ".".repeat(60), "A>B1B!".repeat(10), "A>B12.B!"};
        int[] parts = {0, 1, 1, 1, 60, 20, 3};
        for (int i = 0; i < texts.length; i++) {
            Check.does(x, texts[i], parts[i]);
            due("8 the pad is empty", x.told(0), 0);
            due("8 nothing is done twice", x.done(), 0);
        }
        due("8 days", x.told(1), 62);
        due("8 nothing owed", x.told(21), 0);
        due("8 A's money", x.told(10), 20);
    }

    private static void doneIsAllOrNothing() {
        LentPiles x = new LentPiles();
        for (String text : new String[] {"A>B1.A!", "A>B1.x", "A>B1.A", ".".repeat(58) + "C!", "A>B1.A>B20"}) {
            Check.pad(x, text);
            due("8 refused " + text, x.done(), NO);
            due("8 signs stay", x.told(0), text.length());
            due("8 no day went by", x.told(1), 0);
            due("8 no debt", x.told(21), 0);
            due("8 no money went", x.told(10), 20);
        }
        // The text is still the one that was said: with one sign more it can be.
        Check.pad(x, "A>B1.B");
        due("8 a fault", x.done(), NO);
        due("4 one sign more", x.say('!'), 7);
        due("8 now it can be", x.done(), 3);
    }

    private static void doneRefuses() {
        LentPiles x = new LentPiles();
        for (String text : new String[] {"x", "A", "A>A1", "?", "?!", "?>A1?", "A>B21", "A!", "A>B21?", "A!?>"}) {
            Check.pad(x, text);
            due("8 NO of " + text, x.done(), NO);
            due("8 signs stay", x.told(0), text.length());
        }
        for (String text : new String[] {"?>A1", "A!?>A1", "?>A1A!", "?>A99", "A>B21?>A1"}) {
            Check.pad(x, text);
            due("8 STATE of " + text, x.done(), STATE);
            due("8 signs stay", x.told(0), text.length());
        }
    }

    private static void debtsAre0To4() {
        LentPiles x = after("A>B1A>B2A>B3A>B4A>B5", 5);
        for (int n = 5; n >= 0; n--) {
            due("9 the last", x.debt(1, n - 1, 1), n == 0 ? UNKNOWN : n);
            due("9 the first", x.debt(1, 0, 1), n == 0 ? UNKNOWN : 1);
            int[] wrong = {-1, n, n + 1, 5, 6, Integer.MIN_VALUE, Integer.MAX_VALUE};
            for (int k : wrong) {
                due("9 no debt " + k + " of " + n, x.debt(1, k, 0), UNKNOWN);
                due("9 unknown before outside", x.debt(1, k, 3), UNKNOWN);
            }
            if (n > 0) {
                Check.does(x, "B!", 1);
            }
        }
        // A number of one man's debt does not reach into the next man's pile.
        LentPiles y = after("A>C1", 1);
        due("9 nobody's", y.debt(1, 5, 0), UNKNOWN);
        due("9 nobody's", y.debt(3, -5, 0), UNKNOWN);
    }

    /** What is paid from below or from the middle of a full pile leaves the others as they were. */
    private static void debtsComeDown() {
        int[] paid = {4, 0, 2};
        int[] pence = {3, 2, 9, 2, 3};
        for (int law = 0; law < 3; law++) {
            LentPiles x = after("A>F3.B>F2.C>F9.D>F2.E>F3", 9);
            x.set(0, law);
            Check.does(x, "F!", 1);
            for (int k = 0; k < 4; k++) {
                int was = k < paid[law] ? k : k + 1;
                due("9 lender of " + k, x.debt(5, k, 0), was);
                due("9 pence of " + k, x.debt(5, k, 1), pence[was]);
                due("9 day of " + k, x.debt(5, k, 2), was);
            }
            due("9 the fifth is gone", x.debt(5, 4, 0), UNKNOWN);
            due("8 its lender is paid", x.told(10 + paid[law]), 20);
        }
    }

    private static void debtTakes0To2() {
        LentPiles x = after("..F>A7", 3);
        due("9 lender", x.debt(0, 0, 0), 5);
        due("9 pence", x.debt(0, 0, 1), 7);
        due("9 day", x.debt(0, 0, 2), 2);
        for (int what : new int[] {-1, 3, Integer.MIN_VALUE, Integer.MAX_VALUE}) {
            due("9 what " + what, x.debt(0, 0, what), OUTSIDE);
            due("9 unknown man first", x.debt(6, 0, what), UNKNOWN);
            due("9 unknown man first", x.debt(-1, 0, what), UNKNOWN);
            due("9 unknown debt first", x.debt(0, 1, what), UNKNOWN);
        }
    }

    private static void dueFrom0To4() {
        LentPiles x = new LentPiles();
        for (int n = 1; n <= 5; n++) {
            due("10 before", x.due(0), n == 1 ? NONE : n - 2);
            Check.does(x, "B>A1", 1);
        }
        due("10 the fifth", x.due(0), 4);
        x.set(0, 1);
        due("10 the first", x.due(0), 0);
        Check.does(x, "A!A!A!A!", 4);
        for (int law = 0; law < 3; law++) {
            x.set(0, law);
            due("10 the one", x.due(0), 0);
        }
        Check.does(x, "A!", 1);
        for (int law = 0; law < 3; law++) {
            x.set(0, law);
            due("10 none", x.due(0), NONE);
        }
    }

    private static void owesInAll() {
        LentPiles x = new LentPiles();
        due("11 nothing", x.owes(0, 1), 0);
        due("11 nothing to himself", x.owes(0, 0), 0);
        x.money(1, 999);
        Check.does(x, "B>A99".repeat(5), 5);
        due("11 five", x.owes(0, 1), 495);
        due("11 nothing to another", x.owes(0, 2), 0);
        due("11 nothing to himself", x.owes(0, 0), 0);
        x.give(0, 4, 5);
        due("11 four", x.owes(0, 1), 396);
        due("11 one", x.owes(0, 5), 99);
        x.set(1, 9);
        Check.does(x, ".", 1);
        due("11 grown", x.owes(0, 1), 432);
    }

    private static void penceSeenAre0To9999() {
        LentPiles x = new LentPiles();
        due("12 the least", x.seen(0, 0), 1);
        due("12 the most", x.seen(5, 9999), 2);
        for (int pence : new int[] {-1, 10000, Integer.MIN_VALUE, Integer.MAX_VALUE}) {
            due("12 outside", x.seen(0, pence), OUTSIDE);
            due("12 unknown first", x.seen(6, pence), UNKNOWN);
            due("12 unknown first", x.seen(-1, pence), UNKNOWN);
        }
        due("12 two", x.told(4), 2);
        due("12 the next is the third", x.seen(3, 20), 3);
    }

    private static void sightsAreSix() {
        LentPiles x = new LentPiles();
        for (int n = 1; n <= 6; n++) {
            due("12 sight " + n, x.seen(0, 20), n);
            due("27 sights", x.told(4), n);
        }
        due("12 one too many", x.seen(0, 21), FULL);
        due("12 unknown before full", x.seen(6, 20), UNKNOWN);
        due("12 outside before full", x.seen(0, 10000), OUTSIDE);
        due("12 outside before full", x.seen(0, -1), OUTSIDE);
        due("12 six", x.told(4), 6);
        due("12 the refused one counts nothing", x.filled(-1), 1);
        due("13 six go", x.forget(), 6);
        due("12 room again", x.seen(0, 20), 1);
    }

    private static void forgetOfAnyNumber() {
        LentPiles x = new LentPiles();
        for (int n : new int[] {0, 1, 5, 6, 0}) {
            for (int i = 0; i < n; i++) {
                x.seen(0, 19);
            }
            due("14 as seen", x.filled(-1), n == 0 ? 1 : 0);
            due("13 so many go", x.forget(), n);
            due("13 none is left", x.forget(), 0);
            due("14 all ways again", x.filled(-1), 1);
        }
    }

    private static void sightsHoldToThePenny() {
        for (int man = 0; man < 6; man++) {
            for (int v : new int[] {0, 1, 20, 999}) {
                LentPiles x = new LentPiles();
                x.money(man, v);
                x.seen(man, v);
                due("14 just so", x.filled(-1), 1);
                x.forget();
                x.seen(man, v + 1);
                due("14 one too few", x.filled(-1), 0);
                x.forget();
                due("14 one too many", x.seen(man, v - 1) == OUTSIDE ? 0 : x.filled(-1), 0);
            }
        }
    }

    /** Ten debts that grew to 909 each bring B to 9999, and one penny more can not be seen. */
    private static void aSightOf9999() {
        LentPiles x = new LentPiles();
        x.set(1, 9);
        x.money(1, 90);
        Check.does(x, "B>A9".repeat(5) + "B>C9".repeat(5), 10);
        Check.does(x, ".".repeat(60), 60);
        Check.does(x, ".".repeat(40), 40);
        x.money(1, 909);
        for (int n = 0; n < 10; n++) {
            x.money(n % 2 * 2, 999);
            Check.does(x, n % 2 == 0 ? "A!" : "C!", 1);
        }
        due("2 B has 9999", x.told(11), 9999);
        due("12 so he was seen", x.seen(1, 9999), 1);
        due("14 it holds", x.filled(-1), 1);
        Check.does(x, "C>B1", 1);
        due("2 B has 10000", x.told(11), 10000);
        due("12 which can not be seen", x.seen(1, 10000), OUTSIDE);
        due("14 it does not hold", x.filled(-1), 0);
    }

    private static void sixSights() {
        for (int wrong = -1; wrong < 6; wrong++) {
            LentPiles x = new LentPiles();
            for (int man = 0; man < 6; man++) {
                x.money(man, 30 + man);
                x.seen(man, man == wrong ? 20 : 30 + man);
            }
            due("14 each must hold, not man " + wrong, x.filled(-1), wrong < 0 ? 1 : 0);
        }
        LentPiles y = new LentPiles();
        y.seen(0, 20);
        y.seen(0, 20);
        due("14 two that say the same", y.filled(-1), 1);
        y.seen(0, 21);
        due("14 two that do not", y.filled(-1), 0);
    }

    private static void filledIs(LentPiles x, String text, int... want) {
        Check.pad(x, text);
        for (int i = 0; i < want.length; i++) {
            due("14 " + text + " of " + (i - 1), x.filled(i - 1), want[i]);
        }
    }

    private static void filledWithoutAsks() {
        LentPiles x = new LentPiles();
        filledIs(x, "", 1, NONE, NONE);
        filledIs(x, "A>B20", 1, NONE);
        filledIs(x, "A>B21", 0, NONE);
        filledIs(x, "A!", 0, NONE);
        filledIs(x, ".".repeat(60), 1, NONE);
        x.seen(1, 40);
        filledIs(x, "A>B20", 1, NONE);
        filledIs(x, "A>B19", 0, NONE);
    }

    private static void filledIsNotHimWhoBorrows() {
        for (int man = 0; man < 6; man++) {
            LentPiles x = new LentPiles();
            filledIs(x, "?>" + (char) ('A' + man) + "1", 5, man == 0 ? 1 : 0, NONE);
            // Only he could have lent so much.
            x.money(man, 21);
            filledIs(x, "?>" + (char) ('A' + man) + "21", 0, NONE);
            filledIs(x, "?>" + (char) ('A' + (man + 1) % 6) + "21", 1, man, NONE);
        }
    }

    private static void filledByHowManyAsks() {
        LentPiles x = new LentPiles();
        filledIs(x, "?>F1", 5, 0, NONE, NONE, NONE);
        filledIs(x, "?>F1?>F1", 25, 0, 0, NONE, NONE);
        filledIs(x, "?>F1?>F1?>F1", 125, 0, 0, 0, NONE);
        filledIs(x, "?>A1?>A1?>A1", 125, 1, 1, 1, NONE);
        filledIs(x, "A>B1?>A1.C>D1?>B1D!?>C1", 125, 1, 0, 0, NONE);
    }

    private static void filledTakesTheAsksNumber() {
        LentPiles x = new LentPiles();
        Check.pad(x, "?>A1?>B1?>A1");
        int[] want = {125, 1, 0, 1};
        for (int i = -1; i <= 2; i++) {
            due("14 i " + i, x.filled(i), want[i + 1]);
        }
        for (int i : new int[] {-2, 3, 4, -7, Integer.MIN_VALUE, Integer.MAX_VALUE}) {
            due("14 no such ? " + i, x.filled(i), NONE);
        }
        Check.pad(x, "?>A1?>B1");
        due("14 the third is not there", x.filled(2), NONE);
        Check.pad(x, "?>A99");
        due("14 no way", x.filled(-1), 0);
        for (int i : new int[] {-2, 0, 1, 3}) {
            due("14 no way, so no man", x.filled(i), NONE);
        }
    }

    private static void filledTheFirstByLetters() {
        LentPiles x = new LentPiles();
        // Each has 20, so nobody lends twice; but A can who has borrowed 20.
        filledIs(x, "?>F20?>F20", 20, 0, 1, NONE);
        filledIs(x, "?>A20?>F20?>E20", 81, 1, 0, 0, NONE);
        x.seen(0, 20);
        filledIs(x, "?>F20?>F20", 12, 1, 2, NONE);
        x.seen(1, 0);
        filledIs(x, "?>F20?>F20", 6, 1, 2, NONE);
        x.seen(2, 20);
        filledIs(x, "?>F20?>F20", 4, 1, 3, NONE);
        x.seen(3, 20);
        filledIs(x, "?>F20?>F20", 2, 1, 4, NONE);
    }

    private static void filledByTheLastWayAlone() {
        LentPiles x = new LentPiles();
        x.seen(5, 17);
        filledIs(x, "?>A1?>A1?>A1", 1, 5, 5, 5, NONE);
        x.forget();
        x.seen(4, 17);
        filledIs(x, "?>F1?>F1?>F1", 1, 4, 4, 4, NONE);
        x.forget();
        x.seen(0, 17);
        filledIs(x, "?>F1?>F1?>F1", 1, 0, 0, 0, NONE);
        x.seen(0, 18);
        filledIs(x, "?>F1?>F1?>F1", 0, NONE, NONE, NONE);
    }

    private static void filledPartsThatCanNotBe() {
        LentPiles x = new LentPiles();
        filledIs(x, "?>A1A!A!", 0, NONE);
        filledIs(x, "?>A1A!", 5, 1);
        filledIs(x, "?>A1".repeat(3) + "B>A1".repeat(2), 125, 1, 1, 1);
        filledIs(x, "?>A1".repeat(3) + "B>A1".repeat(3), 0, NONE);
        // Who pays A in between can lend again.
        filledIs(x, "?>A20A!?>B20", 25, 1, 0, NONE);
        filledIs(x, "B>A20?>C21", 1, 0, NONE);
        x.set(1, 9);
        // Only A has 21 then, by whoever's penny.
        filledIs(x, "?>A1.?>C21", 5, 1, 0, NONE);
    }

    private static void filledRefuses() {
        LentPiles x = new LentPiles();
        for (String text : new String[] {"x", "A", "A>A1", "?", "?!", "?>A1?", "?>?1", "?>A1?>A1?>A1?>A1"}) {
            Check.pad(x, text);
            for (int i : new int[] {-2, -1, 0, 1, 2, 3, Integer.MIN_VALUE, Integer.MAX_VALUE}) {
                due("14 NO of " + text + " " + i, x.filled(i), NO);
            }
            due("14 signs stay", x.told(0), text.length());
        }
    }
}
