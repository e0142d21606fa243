/**
 * Block 3 of the document and promises 15 to 22: nothing owed and all piles full, the penny that is
 * enough and the one that is not, rings of two and of six.
 */
public final class PayingsBoundsTest {
    private static final int NONE = -6, UNKNOWN = -1, STATE = -3;
    private static final int[] NO_DEBTS = {-1, 5, 6, Integer.MIN_VALUE, Integer.MAX_VALUE};

    public static void main(String[] args) {
        noSuchDebt();
        soonByOnePaying();
        soonToThePenny();
        soonNever();
        soonUnderFullPiles();
        soonNoDayGoesBy();
        soonOneMansMoneyThroughAnother();
        barredNobodyAndAll();
        barredEachAlone();
        barredToThePenny();
        helpIsJustEnough();
        helpOfNoneIsNeeded();
        helpByNoPence();
        helpBeyondWhatCanBeTold();
        whomTheFirstOfEqual();
        whomEachAlone();
        whomNobody();
        ringOfTwoToSix();
        ringThereIsNone();
        ringByTheLaw();
        setOffToThePenny();
        setOffInAFullPile();
        setOffLeavesARestInItsPlace();
        setOffThereIsNoRing();
        giveToEach();
        giveOfEachDebt();
        giveChangesRings();
        pawnOfOneAndFive();
        pawnOfEqualDebts();
        pawnIsNoMatterOfMoney();
        Check.end("PayingsBoundsTest");
    }

    private static void due(String what, long got, long want) {
        Check.due(what, got, want);
    }

    private static LentPiles after(String text, int parts) {
        LentPiles x = new LentPiles();
        Check.does(x, text, parts);
        return x;
    }

    private static void moneys(LentPiles x, int... v) {
        for (int man = 0; man < v.length; man++) {
            x.money(man, v[man]);
        }
    }

    /** Each owes the one before him: A owes F, B owes A, and so on, all the same. */
    private static LentPiles inARound(int pence) {
        StringBuilder text = new StringBuilder();
        for (int man = 0; man < 6; man++) {
            text.append((char) ('A' + (man + 5) % 6)).append('>').append((char) ('A' + man)).append(pence);
        }
        return after(text.toString(), 6);
    }

    /** All thirty debts that can be, each of one penny to the man before. */
    private static LentPiles allFull() {
        LentPiles x = new LentPiles();
        for (int man = 0; man < 6; man++) {
            Check.does(x, ((char) ('A' + (man + 5) % 6) + ">" + (char) ('A' + man) + "1").repeat(5), 5);
        }
        return x;
    }

    private static void noSuchDebt() {
        LentPiles x = after("A>B1A>B2A>B3A>B4A>B5", 5);
        for (int n = 5; n >= 1; n--) {
            due("15 the last", x.soon(1, n - 1), 1);
            due("22 the last", x.pawn(1, n - 1), n);
            due("21 the last", x.give(1, n - 1, 0), 0);
            due("15 one too many", x.soon(1, n), UNKNOWN);
            due("22 one too many", x.pawn(1, n), UNKNOWN);
            due("21 one too many", x.give(1, n, 0), UNKNOWN);
            for (int k : NO_DEBTS) {
                due("15 no debt " + k, x.soon(1, k), UNKNOWN);
                due("22 no debt " + k, x.pawn(1, k), UNKNOWN);
                due("21 no debt " + k, x.give(1, k, 0), UNKNOWN);
            }
            Check.does(x, "B!", 1);
        }
        due("15 the pile is empty", x.soon(1, 0), UNKNOWN);
        due("22 the pile is empty", x.pawn(1, 0), UNKNOWN);
        due("21 the pile is empty", x.give(1, 0, 0), UNKNOWN);
    }

    private static void soonByOnePaying() {
        for (int man = 0; man < 6; man++) {
            LentPiles x = after((char) ('A' + (man + 1) % 6) + ">" + (char) ('A' + man) + "1", 1);
            due("15 at once", x.soon(man, 0), 1);
        }
    }

    private static void soonToThePenny() {
        LentPiles x = after("A>B5A>B6A>B7", 3);
        int[] sums = {18, 13, 7};
        for (int k = 0; k < 3; k++) {
            x.money(1, sums[k]);
            due("15 just enough for " + k, x.soon(1, k), 3 - k);
            x.money(1, sums[k] - 1);
            due("15 one penny less for " + k, x.soon(1, k), NONE);
        }
        x.money(1, 0);
        due("15 no money", x.soon(1, 2), NONE);
    }

    private static void soonNever() {
        // Each waits for the other one's money.
        LentPiles x = after("A>B9B>A9", 2);
        moneys(x, 8, 8);
        due("15 A never", x.soon(0, 0), NONE);
        due("15 B never", x.soon(1, 0), NONE);
        x.money(0, 9);
        due("15 A at once", x.soon(0, 0), 1);
        due("15 B behind him", x.soon(1, 0), 2);
    }

    private static void soonUnderFullPiles() {
        LentPiles x = allFull();
        moneys(x, 0, 0, 0, 0, 0, 0);
        due("15 no penny at all", x.soon(3, 4), NONE);
        x.money(0, 1);
        // One penny goes round by way of F, E, D, C and B: thirty payings end with B's oldest.
        for (int man = 0; man < 6; man++) {
            int turn = (6 - man) % 6 + 1;
            for (int k = 0; k < 5; k++) {
                due("15 man " + man + " debt " + k, x.soon(man, k), 6 * (4 - k) + turn);
            }
        }
        moneys(x, 5, 5, 5, 5, 5, 5);
        for (int k = 0; k < 5; k++) {
            due("15 by his own money", x.soon(2, k), 5 - k);
        }
        x.money(2, 4);
        due("15 one of D's payings more", x.soon(2, 0), 6);
        due("15 nothing is paid", x.told(22), 5);
    }

    private static void soonNoDayGoesBy() {
        LentPiles x = after("A>B9", 1);
        x.set(1, 9);
        x.money(1, 9);
        due("15 nothing grows", x.soon(1, 0), 1);
        due("16 nothing grows", x.barred(), 0);
        due("17 nothing grows", x.help(1), 0);
        due("22 nothing grows", x.pawn(1, 0), 9);
        due("1 no day went by", x.told(1), 0);
    }

    private static void soonOneMansMoneyThroughAnother() {
        LentPiles x = after("A>B9B>C9B>D9C>D1", 4);
        moneys(x, 0, 0, 9, 10);
        due("15 by C's one paying", x.soon(1, 0), 2);
        x.money(2, 8);
        due("15 D gives C the penny that he lacks", x.soon(1, 0), 3);
        x.money(2, 7);
        due("15 D by two payings", x.soon(1, 0), 3);
        x.money(3, 9);
        due("15 not by D, who has too little for both", x.soon(1, 0), NONE);
    }

    private static void barredNobodyAndAll() {
        due("16 nobody owes", new LentPiles().barred(), 0);
        LentPiles x = inARound(9);
        due("16 nobody", x.barred(), 0);
        moneys(x, 8, 8, 8, 8, 8, 8);
        due("16 all six", x.barred(), 63);
        for (int man = 0; man < 6; man++) {
            x.money(man, 9);
            due("16 one can begin", x.barred(), 0);
            x.money(man, 8);
        }
        LentPiles y = allFull();
        due("16 thirty debts can be paid", y.barred(), 0);
        moneys(y, 0, 0, 0, 0, 0, 0);
        due("16 none of thirty", y.barred(), 63);
    }

    private static void barredEachAlone() {
        for (int man = 0; man < 6; man++) {
            LentPiles x = after((char) ('A' + (man + 1) % 6) + ">" + (char) ('A' + man) + "9", 1);
            x.money(man, 8);
            due("16 he alone", x.barred(), 1 << man);
            x.money(man, 9);
            due("16 nobody", x.barred(), 0);
        }
    }

    private static void barredToThePenny() {
        LentPiles x = after("A>B5A>B6A>B7", 3);
        for (int v : new int[] {0, 6, 7, 12, 13, 17}) {
            x.money(1, v);
            due("16 some are left of " + v, x.barred(), 2);
        }
        x.money(1, 18);
        due("16 none is left", x.barred(), 0);
    }

    /** With so many pence all can be paid, with one less not. */
    private static void justEnough(LentPiles x, int man, int pence) {
        due("17 help of " + man, x.help(man), pence);
        int before = x.told(10 + man);
        x.money(man, before + pence);
        due("17 that is enough", x.barred(), 0);
        x.money(man, before + pence - 1);
        due("17 one less is not", x.barred() == 0 ? 1 : 0, 0);
        x.money(man, before);
    }

    private static void helpIsJustEnough() {
        LentPiles x = after("A>B5A>B6A>B7", 3);
        for (int v : new int[] {0, 1, 6, 7, 12, 13, 17}) {
            x.money(1, v);
            justEnough(x, 1, 18 - v);
        }
        LentPiles y = inARound(9);
        for (int v : new int[] {0, 1, 8}) {
            moneys(y, v, v, v, v, v, v);
            for (int man = 0; man < 6; man++) {
                justEnough(y, man, 9 - v);
            }
        }
        // What he pays comes back: by the first help of 5 B pays all three.
        LentPiles z = after("A>B5A>B5B>A5A>B5", 4);
        moneys(z, 0, 0);
        justEnough(z, 1, 10);
    }

    private static void helpOfNoneIsNeeded() {
        LentPiles x = inARound(9);
        moneys(x, 9, 0, 0, 0, 0, 0);
        for (int man = 0; man < 6; man++) {
            due("17 none is needed", x.help(man), 0);
        }
        due("18 the first", x.whom(), 0);
    }

    private static void helpByNoPence() {
        LentPiles x = after("A>B9C>D9", 2);
        moneys(x, 20, 8, 20, 8);
        for (int man = 0; man < 6; man++) {
            due("17 two are barred, so one's help is not enough", x.help(man), NONE);
        }
        x.money(3, 9);
        int[] wanted = {NONE, 1, NONE, NONE, NONE, NONE};
        for (int man = 0; man < 6; man++) {
            due("17 only B's", x.help(man), wanted[man]);
        }
    }

    private static void helpBeyondWhatCanBeTold() {
        LentPiles x = new LentPiles();
        x.set(1, 9);
        x.money(0, 999);
        Check.does(x, "A>B99".repeat(5) + ".".repeat(35), 40);
        Check.does(x, ".".repeat(60), 60);
        x.money(1, 0);
        due("17 five debts of 954", x.help(1), 5 * (99 + 9 * 95));
        due("18 B", x.whom(), 1);
        x.money(1, 999);
        due("17 less what he has", x.help(1), 5 * (99 + 9 * 95) - 999);
    }

    private static void whomTheFirstOfEqual() {
        LentPiles x = inARound(9);
        moneys(x, 0, 0, 0, 0, 0, 0);
        due("18 all alike", x.whom(), 0);
        for (int man = 5; man > 0; man--) {
            x.money(man, 1);
            due("18 one penny less", x.whom(), man);
        }
        x.money(0, 1);
        due("18 alike again", x.whom(), 0);
    }

    private static void whomEachAlone() {
        for (int man = 0; man < 6; man++) {
            LentPiles x = after((char) ('A' + (man + 1) % 6) + ">" + (char) ('A' + man) + "9", 1);
            x.money(man, 0);
            due("18 he alone", x.whom(), man);
            x.money(man, 9);
            due("18 none is needed", x.whom(), 0);
        }
    }

    private static void whomNobody() {
        LentPiles x = after("A>B9C>D9", 2);
        moneys(x, 0, 8, 0, 8);
        due("18 nobody", x.whom(), NONE);
        x.money(1, 9);
        due("18 D", x.whom(), 3);
        x.money(3, 9);
        due("18 the first", x.whom(), 0);
    }

    private static void ringOfTwoToSix() {
        for (int size = 2; size <= 6; size++) {
            StringBuilder text = new StringBuilder();
            for (int man = 0; man < size; man++) {
                text.append((char) ('A' + (man + 1) % size)).append('>').append((char) ('A' + man)).append('1');
            }
            LentPiles x = after(text.toString(), size);
            for (int man = 0; man < 6; man++) {
                due("19 ring of " + size, x.ring(man), man < size ? (1 << size) - 1 : NONE);
            }
        }
        LentPiles y = after("F>A1A>F1", 2);
        due("19 A and F", y.ring(0), 33);
        due("19 F and A", y.ring(5), 33);
    }

    private static void ringThereIsNone() {
        LentPiles x = new LentPiles();
        due("19 nothing is due", x.ring(0), NONE);
        Check.does(x, "B>A1C>B1D>C1E>D1F>E1", 5);
        for (int man = 0; man < 6; man++) {
            due("19 it ends with F", x.ring(man), NONE);
        }
        // F closes a ring of two with E: the others lead there, but it is not theirs.
        Check.does(x, "E>F1", 1);
        for (int man = 0; man < 6; man++) {
            due("19 E and F alone", x.ring(man), man < 4 ? NONE : 48);
        }
    }

    private static void ringByTheLaw() {
        LentPiles x = after("A>B5C>B3D>B4B>A1", 4);
        int[] wanted = {NONE, 3, 3};
        for (int law = 0; law < 3; law++) {
            x.set(0, law);
            due("19 by law " + law, x.ring(0), wanted[law]);
            due("19 by law " + law, x.ring(1), wanted[law]);
        }
    }

    private static void setOffToThePenny() {
        LentPiles x = after("A>B2B>A1", 2);
        due("20 one", x.setOff(0), 1);
        due("20 A's is gone", x.told(20), 0);
        due("20 B's is of one penny", x.debt(1, 0, 1), 1);
        due("20 of the same day", x.debt(1, 0, 2), 0);
        due("20 of the same lender", x.debt(1, 0, 0), 0);
        Check.does(x, "B>A1", 1);
        due("20 one", x.setOff(1), 1);
        due("20 both are gone", x.told(20) + x.told(21), 0);
        due("20 no money went", x.told(10), 20);
        due("20 no money came", x.told(11), 20);
        LentPiles y = inARound(9);
        due("20 all six", y.setOff(4), 9);
        for (int man = 0; man < 6; man++) {
            due("20 all are gone", y.told(20 + man), 0);
            due("20 no money", y.told(10 + man), 20);
        }
    }

    /** What is gone is gone with its lender and its day, and those above it come down. */
    private static void setOffInAFullPile() {
        int[] gone = {4, 0, 2};
        int[] pence = {1, 2, 9, 2, 3};
        int[] lenders = {5, 4, 3, 2, 5};
        for (int law = 0; law < 3; law++) {
            LentPiles x = after("A>B1.A>B2.A>B9.A>B2.A>B3B>A9", 10);
            x.set(0, law);
            for (int k = 0; k < 5; k++) {
                x.give(1, k, k == gone[law] ? 0 : lenders[k]);
            }
            due("20 what is due of B", x.setOff(1), pence[gone[law]]);
            due("20 four are left", x.told(21), 4);
            for (int k = 0; k < 4; k++) {
                int was = k < gone[law] ? k : k + 1;
                due("20 pence of " + k, x.debt(1, k, 1), pence[was]);
                due("20 day of " + k, x.debt(1, k, 2), was);
                due("20 lender of " + k, x.debt(1, k, 0), lenders[was]);
            }
            due("20 of A", x.told(20), law == 2 ? 0 : 1);
            due("20 of A", x.owes(0, 1), 9 - pence[gone[law]]);
        }
    }

    private static void setOffLeavesARestInItsPlace() {
        int[] which = {4, 0, 2};
        int[] pence = {5, 5, 9, 5, 5};
        for (int law = 0; law < 3; law++) {
            LentPiles x = after("C>B5C>B5C>B9D>B5D>B5B>A1", 6);
            x.set(0, law);
            x.give(1, which[law], 0);
            due("20 one penny", x.setOff(0), 1);
            due("20 A's is gone", x.told(20), 0);
            for (int k = 0; k < 5; k++) {
                due("20 pence of " + k, x.debt(1, k, 1), pence[k] - (k == which[law] ? 1 : 0));
            }
        }
    }

    private static void setOffThereIsNoRing() {
        LentPiles x = new LentPiles();
        due("20 nobody owes", x.setOff(0), STATE);
        Check.does(x, "A>B2B>A2C>A1A>C1B>D1", 5);
        due("20 D leads to A's and C's", x.setOff(3), STATE);
        due("20 B too", x.setOff(1), STATE);
        due("20 nothing became less", x.owes(1, 0) + x.owes(3, 1), 3);
        due("20 A and C", x.setOff(0), 1);
        due("20 now A and B", x.setOff(0), 2);
        due("20 none any more", x.setOff(0), STATE);
        due("20 no such man", x.setOff(6), UNKNOWN);
    }

    private static void giveToEach() {
        for (int man = 0; man < 6; man++) {
            int lender = (man + 1) % 6;
            LentPiles x = after((char) ('A' + lender) + ">" + (char) ('A' + man) + "3", 1);
            int before = lender;
            for (int other = -1; other <= 6; other++) {
                boolean fine = other >= 0 && other < 6 && other != man;
                due("21 of " + man + " to " + other, x.give(man, 0, other), fine ? before : UNKNOWN);
                before = fine ? other : before;
                due("21 the lender", x.debt(man, 0, 0), before);
            }
            due("21 to the same once more", x.give(man, 0, before), before);
            due("21 pence stay", x.debt(man, 0, 1), 3);
            due("21 money stays", x.told(10 + before), before == lender ? 17 : 20);
        }
    }

    private static void giveOfEachDebt() {
        LentPiles x = after("A>B1A>B2A>B3A>B4A>B5", 5);
        for (int k = 0; k < 5; k++) {
            due("21 debt " + k, x.give(1, k, k + 1 == 1 ? 0 : k + 1), 0);
        }
        for (int k = 0; k < 5; k++) {
            due("21 its lender", x.debt(1, k, 0), k == 0 ? 0 : k + 1);
            due("21 its pence", x.debt(1, k, 1), k + 1);
        }
    }

    private static void giveChangesRings() {
        LentPiles x = after("A>B2C>A1", 2);
        due("19 none", x.ring(0), NONE);
        due("21 C gives it to B", x.give(0, 0, 1), 2);
        due("19 A and B", x.ring(0), 3);
        due("20 one", x.setOff(0), 1);
        due("11 B owes A one", x.owes(1, 0), 1);
    }

    private static void pawnOfOneAndFive() {
        int[][] want = {{15, 14, 12, 9, 5}, {1, 3, 6, 10, 15}, {15, 14, 12, 9, 5}};
        for (int law = 0; law < 3; law++) {
            LentPiles x = after("A>B1A>B2A>B3A>B4A>B5", 5);
            x.set(0, law);
            for (int k = 0; k < 5; k++) {
                due("22 law " + law + " debt " + k, x.pawn(1, k), want[law][k]);
            }
            LentPiles y = after("A>B1", 1);
            y.set(0, law);
            due("22 the only one", y.pawn(1, 0), 1);
        }
    }

    private static void pawnOfEqualDebts() {
        LentPiles x = after("A>B3C>B3D>B3E>B3F>B3", 5);
        for (int law = 0; law < 3; law++) {
            x.set(0, law);
            for (int k = 0; k < 5; k++) {
                due("22 law " + law + " debt " + k, x.pawn(1, k), 3 * (law == 1 ? k + 1 : 5 - k));
                due("15 law " + law + " debt " + k, x.soon(1, k), law == 1 ? k + 1 : 5 - k);
            }
        }
    }

    private static void pawnIsNoMatterOfMoney() {
        LentPiles x = after("A>B9C>B8", 2);
        for (int v : new int[] {0, 8, 999}) {
            x.money(1, v);
            due("22 the undermost", x.pawn(1, 0), 17);
            due("22 the uppermost", x.pawn(1, 1), 8);
        }
    }
}
