/**
 * Block 4 of the document and promises 23 to 27: the numbers that odds and years take, what is kept in
 * images, and what is told.
 */
public final class OddsBoundsTest {
    private static final int NONE = -6, OUTSIDE = -2, STATE = -3;
    private static final long LOST = -1000000000000000000L;
    private static final int[] FAR = {Integer.MIN_VALUE, -1000, 100000, Integer.MAX_VALUE};

    public static void main(String[] args) {
        earningsAre1To99();
        oddsDaysAre0To12();
        tenthsAre0To10();
        partsAre0And1();
        oddsToThePenny();
        oddsInLowestTerms();
        oddsByTheLaw();
        oddsDebtsGrow();
        oddsRefusalsInTheirOrder();
        oddsNothingIsDone();
        seedsAre0To9999();
        yearDaysAre1To99();
        yearTellsThree();
        yearCountsAll();
        yearEarnings();
        yearPaysAsLongAsHeCan();
        yearPaysBeforeTheDayGoesBy();
        yearByTheLaw();
        yearNothingIsDone();
        imagesAreTwo();
        imageOfANewObject();
        imageOfFullThings();
        imageIsNotThePad();
        imageOverAnImage();
        restoreWhatWasNotKept();
        restoreAgain();
        toldNumbers();
        Check.end("OddsBoundsTest");
    }

    private static void due(String what, long got, long want) {
        Check.due(what, got, want);
    }

    private static LentPiles after(String text, int parts) {
        LentPiles x = new LentPiles();
        Check.does(x, text, parts);
        return x;
    }

    private static void odds(LentPiles x, int e, int n, int t, long upper, long lower) {
        String what = "23 odds of " + e + " on " + n + " days by " + t;
        due(what + ", upper", x.odds(1, e, n, t, 0), upper);
        due(what + ", lower", x.odds(1, e, n, t, 1), lower);
    }

    private static void outside(LentPiles x, int e, int n, int t, int part) {
        due("23 outside " + e + " " + n + " " + t + " " + part, x.odds(1, e, n, t, part), LOST + OUTSIDE);
    }

    /** B owes 10 and has 9. */
    private static LentPiles onePennyShort() {
        LentPiles x = after("A>B10", 1);
        x.money(1, 9);
        return x;
    }

    private static void earningsAre1To99() {
        LentPiles x = onePennyShort();
        odds(x, 1, 1, 10, 1, 1);
        odds(x, 99, 1, 10, 1, 1);
        outside(x, 0, 1, 10, 0);
        outside(x, 100, 1, 10, 0);
        outside(x, -1, 1, 10, 1);
        for (int e : FAR) {
            outside(x, e, 1, 10, 0);
        }
        LentPiles y = new LentPiles();
        y.money(0, 99);
        Check.does(y, "A>B99", 1);
        y.money(1, 0);
        odds(y, 98, 1, 10, 0, 1);
        odds(y, 99, 1, 10, 1, 1);
    }

    private static void oddsDaysAre0To12() {
        LentPiles x = onePennyShort();
        odds(x, 1, 0, 5, 0, 1);
        odds(x, 1, 0, 10, 0, 1);
        x.money(1, 10);
        odds(x, 1, 0, 0, 1, 1);
        x.money(1, 0);
        odds(x, 1, 9, 10, 0, 1);
        odds(x, 1, 10, 10, 1, 1);
        odds(x, 1, 12, 10, 1, 1);
        odds(x, 1, 12, 5, 79, 4096);
        outside(x, 1, -1, 5, 0);
        outside(x, 1, 13, 5, 0);
        outside(x, 1, 13, 5, 1);
        for (int n : FAR) {
            outside(x, 1, n, 5, 0);
        }
    }

    private static void tenthsAre0To10() {
        LentPiles x = onePennyShort();
        long[] upper = {0, 1, 1, 3, 2, 1, 3, 7, 4, 9, 1};
        long[] lower = {1, 10, 5, 10, 5, 2, 5, 10, 5, 10, 1};
        for (int t = 0; t <= 10; t++) {
            odds(x, 1, 1, t, upper[t], lower[t]);
        }
        odds(x, 1, 12, 0, 0, 1);
        odds(x, 1, 12, 10, 1, 1);
        outside(x, 1, 1, -1, 0);
        outside(x, 1, 1, 11, 0);
        outside(x, 1, 0, 11, 1);
        for (int t : FAR) {
            outside(x, 1, 1, t, 0);
        }
    }

    private static void partsAre0And1() {
        LentPiles x = onePennyShort();
        due("23 the upper", x.odds(1, 1, 1, 4, 0), 2);
        due("23 the lower", x.odds(1, 1, 1, 4, 1), 5);
        outside(x, 1, 1, 4, -1);
        outside(x, 1, 1, 4, 2);
        for (int part : FAR) {
            outside(x, 1, 1, 4, part);
        }
    }

    private static void oddsToThePenny() {
        LentPiles x = after("A>B10", 1);
        x.money(1, 4);
        // Two good days of three are enough for the six pence that lack, not for seven.
        odds(x, 3, 3, 5, 1, 2);
        x.money(1, 3);
        odds(x, 3, 3, 5, 1, 8);
        x.money(1, 1);
        odds(x, 3, 3, 5, 1, 8);
        x.money(1, 0);
        odds(x, 3, 3, 5, 0, 1);
        x.money(1, 7);
        odds(x, 3, 3, 5, 7, 8);
        x.money(1, 10);
        odds(x, 3, 3, 5, 1, 1);
        x.money(1, 999);
        odds(x, 3, 3, 0, 1, 1);
    }

    private static void oddsInLowestTerms() {
        LentPiles x = onePennyShort();
        odds(x, 1, 12, 1, 717570463519L, 1000000000000L);
        odds(x, 1, 12, 9, 999999999999L, 1000000000000L);
        odds(x, 1, 12, 2, 227363409L, 244140625L);
        odds(x, 1, 2, 2, 9, 25);
        x.money(1, 0);
        odds(x, 1, 10, 1, 1, 10000000000L);
        odds(x, 1, 10, 5, 1, 1024);
        odds(x, 1, 10, 2, 1, 9765625);
    }

    private static void oddsByTheLaw() {
        LentPiles x = after("A>B5C>B9D>B7", 3);
        int[] pence = {7, 5, 9};
        for (int law = 0; law < 3; law++) {
            x.set(0, law);
            x.money(1, pence[law]);
            odds(x, 1, 0, 0, 1, 1);
            x.money(1, pence[law] - 1);
            odds(x, 1, 0, 0, 0, 1);
        }
    }

    private static void oddsDebtsGrow() {
        LentPiles x = after("A>B10", 1);
        x.set(1, 9);
        x.money(1, 10);
        odds(x, 9, 12, 10, 1, 1);
        odds(x, 8, 12, 10, 0, 1);
        odds(x, 99, 12, 0, 0, 1);
        x.money(1, 118);
        odds(x, 1, 12, 0, 1, 1);
        x.money(1, 117);
        odds(x, 1, 12, 0, 0, 1);
        odds(x, 1, 11, 0, 1, 1);
    }

    private static void oddsRefusalsInTheirOrder() {
        LentPiles x = onePennyShort();
        for (int part = 0; part < 2; part++) {
            due("23 nothing is due", x.odds(0, 1, 0, 0, part), LOST + STATE);
            due("23 outside before state", x.odds(0, 0, 0, 0, part), LOST + OUTSIDE);
            due("23 outside before state", x.odds(0, 1, 13, 0, part), LOST + OUTSIDE);
            due("23 outside before state", x.odds(0, 1, 0, 11, part), LOST + OUTSIDE);
            due("23 unknown before all", x.odds(6, 0, 13, 11, part), LOST - 1);
            due("23 unknown before all", x.odds(-1, 0, 13, 11, part), LOST - 1);
            due("23 unknown", x.odds(6, 1, 0, 0, part), LOST - 1);
        }
        due("23 outside before state", x.odds(0, 1, 0, 0, 2), LOST + OUTSIDE);
        due("23 unknown before all", x.odds(6, 1, 0, 0, 2), LOST - 1);
    }

    private static void oddsNothingIsDone() {
        LentPiles x = after("A>B10", 1);
        x.set(1, 9);
        odds(x, 99, 12, 10, 1, 1);
        due("23 no day", x.told(1), 0);
        due("23 no growth", x.debt(1, 0, 1), 10);
        due("23 no earnings", x.told(11), 30);
    }

    private static void seedsAre0To9999() {
        LentPiles x = after("A>B5", 1);
        due("24 the least", x.year(0, 1, 1), 1);
        due("24 the most", x.year(9999, 1, 1), 1);
        for (int what = 0; what < 3; what++) {
            due("24 one too few", x.year(-1, 1, what), OUTSIDE);
            due("24 one too many", x.year(10000, 1, what), OUTSIDE);
            for (int seed : FAR) {
                due("24 far", x.year(seed, 1, what), OUTSIDE);
            }
        }
    }

    private static void yearDaysAre1To99() {
        LentPiles x = after("A>B9", 1);
        x.money(1, 0);
        x.set(1, 9);
        due("24 one day", x.year(0, 1, 2), 18);
        due("24 99 days", x.year(0, 99, 2), 9 + 9 * 99);
        for (int what = 0; what < 3; what++) {
            due("24 none", x.year(0, 0, what), OUTSIDE);
            due("24 one too many", x.year(0, 100, what), OUTSIDE);
            due("24 less", x.year(0, -1, what), OUTSIDE);
            for (int n : FAR) {
                due("24 far", x.year(0, n, what), OUTSIDE);
            }
        }
    }

    private static void yearTellsThree() {
        // The seed 0 becomes 74: C earns 1 and 3.
        LentPiles x = after("A>C1A>B9", 2);
        due("24 paid", x.year(0, 1, 0), 1);
        due("24 left", x.year(0, 1, 1), 1);
        due("24 owed", x.year(0, 1, 2), 9);
        for (int what : new int[] {-1, 3, Integer.MIN_VALUE, Integer.MAX_VALUE}) {
            due("24 what", x.year(0, 1, what), OUTSIDE);
        }
    }

    /** Of each man the first and the fifth debt count, and all thirty of them. */
    private static void yearCountsAll() {
        LentPiles all = new LentPiles();
        for (int man = 0; man < 6; man++) {
            char to = (char) ('A' + man);
            String five = ((char) ('A' + (man + 1) % 6) + ">" + to + "4").repeat(5);
            LentPiles x = after(five.substring(0, 4), 1);
            x.money(man, 0);
            due("24 one of " + to, x.year(12, 1, 1), 1);
            due("24 pence of " + to, x.year(12, 1, 2), 4);
            Check.does(x, five.substring(4), 4);
            x.money(man, 0);
            due("24 five of " + to, x.year(12, 1, 1), 5);
            due("24 pence of " + to, x.year(12, 1, 2), 20);
            all.money((man + 1) % 6, 20);
            Check.does(all, five, 5);
        }
        for (int man = 0; man < 6; man++) {
            all.money(man, 0);
        }
        due("24 thirty", all.year(12, 1, 1), 30);
        due("24 pence of thirty", all.year(12, 1, 2), 120);
        all.set(1, 9);
        due("24 grown", all.year(12, 1, 2), 120 + 30 * 9);
        due("24 none is paid", all.year(12, 1, 0), 0);
    }

    /**
     * Who earns on the first day, and how much: each man 1 and 9, the least and the greatest seed, and 872
     * and 873, the last whose draw is less than 65537 by itself and the first whose draw is cut.
     */
    private static void yearEarnings() {
        int[][] firsts = {{875, 0, 1}, {885, 0, 9}, {1751, 1, 1}, {1761, 1, 9}, {12, 2, 1}, {4, 2, 9},
            {888, 3, 1}, {880, 3, 9}, {1764, 4, 1}, {1756, 4, 9}, {7, 5, 1}, {17, 5, 9},
            {0, 2, 4}, {9999, 4, 7}, {872, 2, 5}, {873, 0, 3}};
        for (int[] first : firsts) {
            int man = first[1];
            int earned = first[2];
            LentPiles x = after((char) ('A' + (man + 1) % 6) + ">" + (char) ('A' + man) + "20", 1);
            x.money(man, 20 - earned);
            due("24 just enough by seed " + first[0], x.year(first[0], 1, 0), 1);
            x.money(man, 19 - earned);
            due("24 one penny less by seed " + first[0], x.year(first[0], 1, 0), 0);
        }
    }

    private static void yearPaysAsLongAsHeCan() {
        LentPiles x = after("A>C1".repeat(5), 5);
        x.money(2, 0);
        due("24 four of five by four pence", x.year(0, 1, 0), 4);
        due("24 one is left", x.year(0, 1, 1), 1);
        due("24 one penny", x.year(0, 1, 2), 1);
        x.money(2, 1);
        due("24 all five", x.year(0, 1, 0), 5);
        due("24 none is left", x.year(0, 1, 1), 0);
        due("24 nothing is owed", x.year(0, 1, 2), 0);
        // Nobody else pays on that day, though he could.
        Check.does(x, "A>B1", 1);
        due("24 B's stays", x.year(0, 1, 1), 1);
        // What he can not pay stands before what he could.
        LentPiles y = after("A>C1A>C9", 2);
        y.money(2, 4);
        due("24 the last made is too dear", y.year(0, 1, 0), 0);
        y.money(2, 5);
        due("24 one can be paid", y.year(0, 1, 0), 1);
        y.money(2, 6);
        due("24 both", y.year(0, 1, 0), 2);
    }

    private static void yearPaysBeforeTheDayGoesBy() {
        LentPiles x = after("A>C9A>B5", 2);
        x.set(1, 9);
        x.money(2, 5);
        due("24 paid before it grows", x.year(0, 1, 0), 1);
        due("24 the other one grows", x.year(0, 1, 2), 14);
        x.money(2, 4);
        due("24 not paid", x.year(0, 1, 0), 0);
        due("24 both grow", x.year(0, 1, 2), 32);
        // The second draw is C's too, who earns 2 then: 4 and 4 and 2 are less than 18.
        due("24 not on the second day", x.year(0, 2, 0), 0);
        x.money(2, 11);
        due("24 the first day", x.year(0, 2, 0), 1);
    }

    private static void yearByTheLaw() {
        LentPiles x = after("A>C3A>C9A>C6", 3);
        int[] pence = {6, 3, 9};
        for (int law = 0; law < 3; law++) {
            x.set(0, law);
            x.money(2, pence[law] > 4 ? pence[law] - 4 : 0);
            due("24 law " + law, x.year(0, 1, 0), 1);
            due("24 left by law " + law, x.year(0, 1, 2), 18 - pence[law]);
        }
        x.set(0, 2);
        x.money(2, 4);
        due("24 the dearest is too dear", x.year(0, 1, 0), 0);
    }

    private static void yearNothingIsDone() {
        LentPiles x = after("A>C9A>B5", 2);
        x.set(1, 9);
        for (int what = 0; what < 3; what++) {
            x.year(0, 99, what);
        }
        due("24 no day", x.told(1), 0);
        due("24 no growth", x.debt(1, 0, 1), 5);
        due("24 not paid", x.told(22), 1);
        due("24 no earnings", x.told(12), 29);
        due("24 no money came", x.told(10), 6);
        due("24 the same year again", x.year(0, 1, 2), x.year(0, 1, 2));
    }

    private static void imagesAreTwo() {
        LentPiles x = new LentPiles();
        for (int n : new int[] {-1, 2, 3, 32, 33, Integer.MIN_VALUE, Integer.MAX_VALUE}) {
            due("25 image " + n, x.image(n), OUTSIDE);
            due("26 outside before state " + n, x.restore(n), OUTSIDE);
        }
        due("26 none was kept by these", x.restore(0), STATE);
        due("26 none was kept by these", x.restore(1), STATE);
        due("25 the first", x.image(0), 1);
        due("26 the second was not", x.restore(1), STATE);
        due("25 the second", x.image(1), 1);
        due("26 the first", x.restore(0), 1);
        due("26 the second", x.restore(1), 1);
        for (int n : new int[] {-1, 2, 32, Integer.MIN_VALUE, Integer.MAX_VALUE}) {
            due("26 image " + n, x.restore(n), OUTSIDE);
        }
    }

    private static void imageOfANewObject() {
        LentPiles x = new LentPiles();
        x.image(1);
        x.set(0, 2);
        x.set(1, 9);
        x.seen(0, 0);
        Check.does(x, "A>B5.C>D5.", 4);
        due("26 back", x.restore(1), 1);
        for (int what = 0; what < 5; what++) {
            due("26 told " + what, x.told(what), 0);
        }
        for (int man = 0; man < 6; man++) {
            due("26 money", x.told(10 + man), 20);
            due("26 debts", x.told(20 + man), 0);
            due("26 due", x.due(man), NONE);
        }
    }

    /** All piles full, all sights told, days gone by: kept, undone and brought back. */
    private static void imageOfFullThings() {
        LentPiles x = new LentPiles();
        for (int man = 0; man < 6; man++) {
            x.seen(man, 30 + man);
        }
        for (int man = 0; man < 6; man++) {
            String to = (char) ('A' + (man + 5) % 6) + ">" + (char) ('A' + man);
            Check.does(x, to + "1" + to + "2." + to + "3" + to + "4" + to + "5", 6);
        }
        for (int man = 0; man < 6; man++) {
            x.money(man, 30 + man);
        }
        x.set(0, 2);
        x.set(1, 7);
        due("25 kept", x.image(0), 1);
        x.forget();
        x.set(0, 1);
        x.set(1, 0);
        x.setOff(0);
        x.give(1, 0, 4);
        Check.does(x, "A!B!C!D!E!F!...", 9);
        due("26 back", x.restore(0), 1);
        due("26 days", x.told(1), 6);
        due("26 law", x.told(2), 2);
        due("26 rate", x.told(3), 7);
        due("26 sights", x.told(4), 6);
        due("26 they hold", x.filled(-1), 1);
        for (int man = 0; man < 6; man++) {
            due("26 money", x.told(10 + man), 30 + man);
            for (int k = 0; k < 5; k++) {
                due("26 lender", x.debt(man, k, 0), (man + 5) % 6);
                due("26 pence", x.debt(man, k, 1), k + 1);
                due("26 day", x.debt(man, k, 2), k < 2 ? man : man + 1);
            }
        }
    }

    private static void imageIsNotThePad() {
        LentPiles x = new LentPiles();
        Check.pad(x, "A>B1");
        x.image(0);
        due("25 the pad stays", x.told(0), 4);
        x.say('.');
        due("26 back", x.restore(0), 1);
        due("26 the pad stays", x.told(0), 5);
        due("26 its text too", x.done(), 2);
        due("26 back", x.restore(0), 1);
        due("26 the pad stays empty", x.told(0), 0);
        due("26 no debt", x.told(21), 0);
    }

    private static void imageOverAnImage() {
        LentPiles x = new LentPiles();
        x.image(0);
        x.image(1);
        x.money(0, 1);
        x.image(0);
        x.money(0, 2);
        due("26 the second", x.restore(1), 1);
        due("25 the second as it was", x.told(10), 20);
        due("26 the first", x.restore(0), 1);
        due("25 the first as it was last", x.told(10), 1);
        // What is restored can be kept as the other image.
        due("25 the second", x.image(1), 1);
        x.money(0, 3);
        x.restore(1);
        due("25 of the first", x.told(10), 1);
    }

    private static void restoreWhatWasNotKept() {
        LentPiles x = after("A>B5.", 2);
        x.image(1);
        x.money(0, 7);
        due("26 not kept", x.restore(0), STATE);
        due("26 nothing changed", x.told(10), 7);
        due("26 nothing changed", x.told(21), 1);
        due("26 again", x.restore(0), STATE);
        due("26 the kept one", x.restore(1), 1);
        due("26 is not lost", x.told(10), 15);
    }

    private static void restoreAgain() {
        LentPiles x = after("A>B5", 1);
        x.image(0);
        for (int n = 0; n < 3; n++) {
            Check.does(x, ".B!", 2);
            due("26 again", x.restore(0), 1);
            due("26 the debt is there", x.told(21), 1);
            due("26 no day", x.told(1), 0);
        }
    }

    private static void toldNumbers() {
        LentPiles x = after("A>B5.", 2);
        for (int what = -2; what <= 40; what++) {
            boolean fine = what >= 0 && what <= 4 || what >= 10 && what <= 15 || what >= 20 && what <= 25;
            due("27 told " + what, x.told(what) == OUTSIDE ? 0 : 1, fine ? 1 : 0);
        }
        for (int what : new int[] {Integer.MIN_VALUE, Integer.MIN_VALUE + 9, Integer.MIN_VALUE + 19,
            Integer.MAX_VALUE, Integer.MAX_VALUE - 5}) {
            due("27 far", x.told(what), OUTSIDE);
        }
        Check.pad(x, ".".repeat(60));
        due("27 sixty signs", x.told(0), 60);
    }
}
